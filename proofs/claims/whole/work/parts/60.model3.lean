set_option maxHeartbeats 4000000 in
set_option maxRecDepth 100000 in
theorem c_X10_begins (l : Launch) (g : GG) (mo0 : Nat) (mA1 : Nat) (mA3 : Nat) (mA4 : Nat) (mA5 : Nat) (mA6 : Nat) (mA7 : Nat) (mA8 : Nat) (mA9 : Nat) (mA10 : Nat) (mA11 : Nat) (mA12 : Nat) (mA15 : Nat) (mA16 : Nat) (mA17 : Nat) (mA20 : Nat) (mL : Nat) (mAt : Nat) (kz : Nat) (dn : Nat) (mAb : Nat) (mBe : Nat) (mCl : Int) (mtd : Nat → Nat) (mws : Nat → Nat) (mcs : Nat → Nat) (mbs : Nat → Nat)  : WRv g l yX10_begins cX10_begins 1 1 [(mo0, .inr (8, [nV mL, .ref mA1, nV mAt, .ref mA3, .ref mA4, .ref mA5, .ref mA6, .ref mA7, .ref mA8, .ref mA9, .ref mA10, .ref mA11, .ref mA12, nV kz, nV dn, .ref mA15, .ref mA16, .ref mA17, mV mAb, mV mBe, .ref mA20, zV mCl])), (mA3, cN g 4 mtd), (mA4, cN g 2 mws), (mA6, cN g 2 mcs), (mA8, cN g 2 mbs)] [.ref mo0] (fun (_ : Unit) => True) (fun (_ : Unit) => [(mo0, .inr (8, [nV mL, .ref mA1, nV mAt, .ref mA3, .ref mA4, .ref mA5, .ref mA6, .ref mA7, .ref mA8, .ref mA9, .ref mA10, .ref mA11, .ref mA12, nV kz, nV dn, .ref mA15, .ref mA16, .ref mA17, mV mAb, mV mBe, .ref mA20, zV mCl])), (mA3, cN g 4 (upN (upN mtd 2 2) 3 3)), (mA4, cN g 2 (upN mws 1 0)), (mA6, cN g 2 (upN mcs 1 0)), (mA8, cN g 2 (upN mbs 1 0))]) := by
  refine wr_startV (by decide +kernel) (Nat.le_of_ble_eq_true rfl) ?_
  intro p e s m args below meth c Q A ls C hK hA ret hP hD hS hl
  have C : CT p s m args meth c cX10_begins RX10 1 := C
  have hl : lv_has ls 1 [(0, .ref mo0)] := hl
  refine lv_aload_n C.1 C.2.1 dX10_begins_0 rfl (lv_at hl 0 rfl) ?_
  refine r_get C hK hP kw_X10 (ci := 8) rfl 0 4 (by decide) kf_X10_17 rfl rfl dX10_begins_1 ?_
  refine r_iconst 1 C dX10_begins_4 rfl ?_
  refine r_iconst 0 C dX10_begins_5 rfl ?_
  refine r_astN C hK hP hD hS 2 rfl ⟨by omega, by omega⟩ dX10_begins_6 (fun H locs hP hD hS => ?_)
  have hP : va_P g.1 vwCl [(mo0, .inr (8, [nV mL, .ref mA1, nV mAt, .ref mA3, .ref mA4, .ref mA5, .ref mA6, .ref mA7, .ref mA8, .ref mA9, .ref mA10, .ref mA11, .ref mA12, nV kz, nV dn, .ref mA15, .ref mA16, .ref mA17, mV mAb, mV mBe, .ref mA20, zV mCl])), (mA3, cN g 4 mtd), (mA4, cN g 2 (upN mws 1 0)), (mA6, cN g 2 mcs), (mA8, cN g 2 mbs)] H := hP
  have hD : va_D A [(mo0, .inr (8, [nV mL, .ref mA1, nV mAt, .ref mA3, .ref mA4, .ref mA5, .ref mA6, .ref mA7, .ref mA8, .ref mA9, .ref mA10, .ref mA11, .ref mA12, nV kz, nV dn, .ref mA15, .ref mA16, .ref mA17, mV mAb, mV mBe, .ref mA20, zV mCl])), (mA3, cN g 4 mtd), (mA4, cN g 2 (upN mws 1 0)), (mA6, cN g 2 mcs), (mA8, cN g 2 mbs)] := hD
  refine lv_aload_n C.1 C.2.1 dX10_begins_7 rfl (lv_at hl 0 rfl) ?_
  refine r_get C hK hP kw_X10 (ci := 8) rfl 0 6 (by decide) kf_X10_23 rfl rfl dX10_begins_8 ?_
  refine r_iconst 1 C dX10_begins_11 rfl ?_
  refine r_iconst 0 C dX10_begins_12 rfl ?_
  refine r_astN C hK hP hD hS 3 rfl ⟨by omega, by omega⟩ dX10_begins_13 (fun H locs hP hD hS => ?_)
  have hP : va_P g.1 vwCl [(mo0, .inr (8, [nV mL, .ref mA1, nV mAt, .ref mA3, .ref mA4, .ref mA5, .ref mA6, .ref mA7, .ref mA8, .ref mA9, .ref mA10, .ref mA11, .ref mA12, nV kz, nV dn, .ref mA15, .ref mA16, .ref mA17, mV mAb, mV mBe, .ref mA20, zV mCl])), (mA3, cN g 4 mtd), (mA4, cN g 2 (upN mws 1 0)), (mA6, cN g 2 (upN mcs 1 0)), (mA8, cN g 2 mbs)] H := hP
  have hD : va_D A [(mo0, .inr (8, [nV mL, .ref mA1, nV mAt, .ref mA3, .ref mA4, .ref mA5, .ref mA6, .ref mA7, .ref mA8, .ref mA9, .ref mA10, .ref mA11, .ref mA12, nV kz, nV dn, .ref mA15, .ref mA16, .ref mA17, mV mAb, mV mBe, .ref mA20, zV mCl])), (mA3, cN g 4 mtd), (mA4, cN g 2 (upN mws 1 0)), (mA6, cN g 2 (upN mcs 1 0)), (mA8, cN g 2 mbs)] := hD
  refine lv_aload_n C.1 C.2.1 dX10_begins_14 rfl (lv_at hl 0 rfl) ?_
  refine r_get C hK hP kw_X10 (ci := 8) rfl 0 8 (by decide) kf_X10_29 rfl rfl dX10_begins_15 ?_
  refine r_iconst 1 C dX10_begins_18 rfl ?_
  refine r_iconst 0 C dX10_begins_19 rfl ?_
  refine r_astN C hK hP hD hS 4 rfl ⟨by omega, by omega⟩ dX10_begins_20 (fun H locs hP hD hS => ?_)
  have hP : va_P g.1 vwCl [(mo0, .inr (8, [nV mL, .ref mA1, nV mAt, .ref mA3, .ref mA4, .ref mA5, .ref mA6, .ref mA7, .ref mA8, .ref mA9, .ref mA10, .ref mA11, .ref mA12, nV kz, nV dn, .ref mA15, .ref mA16, .ref mA17, mV mAb, mV mBe, .ref mA20, zV mCl])), (mA3, cN g 4 mtd), (mA4, cN g 2 (upN mws 1 0)), (mA6, cN g 2 (upN mcs 1 0)), (mA8, cN g 2 (upN mbs 1 0))] H := hP
  have hD : va_D A [(mo0, .inr (8, [nV mL, .ref mA1, nV mAt, .ref mA3, .ref mA4, .ref mA5, .ref mA6, .ref mA7, .ref mA8, .ref mA9, .ref mA10, .ref mA11, .ref mA12, nV kz, nV dn, .ref mA15, .ref mA16, .ref mA17, mV mAb, mV mBe, .ref mA20, zV mCl])), (mA3, cN g 4 mtd), (mA4, cN g 2 (upN mws 1 0)), (mA6, cN g 2 (upN mcs 1 0)), (mA8, cN g 2 (upN mbs 1 0))] := hD
  refine lv_aload_n C.1 C.2.1 dX10_begins_21 rfl (lv_at hl 0 rfl) ?_
  refine r_get C hK hP kw_X10 (ci := 8) rfl 0 3 (by decide) kf_X10_13 rfl rfl dX10_begins_22 ?_
  refine r_iconst 2 C dX10_begins_25 rfl ?_
  refine r_iconst 2 C dX10_begins_26 rfl ?_
  refine r_astN C hK hP hD hS 1 rfl ⟨by omega, by omega⟩ dX10_begins_27 (fun H locs hP hD hS => ?_)
  have hP : va_P g.1 vwCl [(mo0, .inr (8, [nV mL, .ref mA1, nV mAt, .ref mA3, .ref mA4, .ref mA5, .ref mA6, .ref mA7, .ref mA8, .ref mA9, .ref mA10, .ref mA11, .ref mA12, nV kz, nV dn, .ref mA15, .ref mA16, .ref mA17, mV mAb, mV mBe, .ref mA20, zV mCl])), (mA3, cN g 4 (upN mtd 2 2)), (mA4, cN g 2 (upN mws 1 0)), (mA6, cN g 2 (upN mcs 1 0)), (mA8, cN g 2 (upN mbs 1 0))] H := hP
  have hD : va_D A [(mo0, .inr (8, [nV mL, .ref mA1, nV mAt, .ref mA3, .ref mA4, .ref mA5, .ref mA6, .ref mA7, .ref mA8, .ref mA9, .ref mA10, .ref mA11, .ref mA12, nV kz, nV dn, .ref mA15, .ref mA16, .ref mA17, mV mAb, mV mBe, .ref mA20, zV mCl])), (mA3, cN g 4 (upN mtd 2 2)), (mA4, cN g 2 (upN mws 1 0)), (mA6, cN g 2 (upN mcs 1 0)), (mA8, cN g 2 (upN mbs 1 0))] := hD
  refine lv_aload_n C.1 C.2.1 dX10_begins_28 rfl (lv_at hl 0 rfl) ?_
  refine r_get C hK hP kw_X10 (ci := 8) rfl 0 3 (by decide) kf_X10_13 rfl rfl dX10_begins_29 ?_
  refine r_iconst 3 C dX10_begins_32 rfl ?_
  refine r_iconst 3 C dX10_begins_33 rfl ?_
  refine r_astN C hK hP hD hS 1 rfl ⟨by omega, by omega⟩ dX10_begins_34 (fun H locs hP hD hS => ?_)
  have hP : va_P g.1 vwCl [(mo0, .inr (8, [nV mL, .ref mA1, nV mAt, .ref mA3, .ref mA4, .ref mA5, .ref mA6, .ref mA7, .ref mA8, .ref mA9, .ref mA10, .ref mA11, .ref mA12, nV kz, nV dn, .ref mA15, .ref mA16, .ref mA17, mV mAb, mV mBe, .ref mA20, zV mCl])), (mA3, cN g 4 (upN (upN mtd 2 2) 3 3)), (mA4, cN g 2 (upN mws 1 0)), (mA6, cN g 2 (upN mcs 1 0)), (mA8, cN g 2 (upN mbs 1 0))] H := hP
  have hD : va_D A [(mo0, .inr (8, [nV mL, .ref mA1, nV mAt, .ref mA3, .ref mA4, .ref mA5, .ref mA6, .ref mA7, .ref mA8, .ref mA9, .ref mA10, .ref mA11, .ref mA12, nV kz, nV dn, .ref mA15, .ref mA16, .ref mA17, mV mAb, mV mBe, .ref mA20, zV mCl])), (mA3, cN g 4 (upN (upN mtd 2 2) 3 3)), (mA4, cN g 2 (upN mws 1 0)), (mA6, cN g 2 (upN mcs 1 0)), (mA8, cN g 2 (upN mbs 1 0))] := hD
  exact ret (()) dX10_begins_35 hS hP (trivial)
set_option maxHeartbeats 4000000 in
set_option maxRecDepth 100000 in
theorem c_X10_takes (l : Launch) (g : GG) (mo0 : Nat) (mA1 : Nat) (mA3 : Nat) (mA4 : Nat) (mA5 : Nat) (mA6 : Nat) (mA7 : Nat) (mA8 : Nat) (mA9 : Nat) (mA10 : Nat) (mA11 : Nat) (mA12 : Nat) (mA15 : Nat) (mA16 : Nat) (mA17 : Nat) (mA20 : Nat) (mL : Nat) (mAt : Nat) (kz : Nat) (dn : Nat) (mAb : Nat) (mBe : Nat) (mCl : Int) (mtd : Nat → Nat) (mws : Nat → Nat) (mwd : Nat → Nat) (mcs : Nat → Nat) (mca : Nat → Nat) (mbs : Nat → Nat) (mba : Nat → Nat) (mlv : Nat → Nat) (mfl : Nat → Int)  : WRv g l yX10_takes cX10_takes 2 1 [(mo0, .inr (8, [nV mL, .ref mA1, nV mAt, .ref mA3, .ref mA4, .ref mA5, .ref mA6, .ref mA7, .ref mA8, .ref mA9, .ref mA10, .ref mA11, .ref mA12, nV kz, nV dn, .ref mA15, .ref mA16, .ref mA17, mV mAb, mV mBe, .ref mA20, zV mCl])), (mA3, cN g 4 mtd), (mA4, cN g 2 mws), (mA5, cN g 32 mwd), (mA6, cN g 2 mcs), (mA7, cN g 20 mca), (mA8, cN g 2 mbs), (mA9, cN g 10 mba), (mA10, cN g 3 mlv), (mA12, cZ g 3 mfl)] [.ref mo0] (fun (_ : Unit) => True) (fun (_ : Unit) => [(mo0, .inr (8, [nV mL, .ref mA1, nV mAt, .ref mA3, .ref mA4, .ref mA5, .ref mA6, .ref mA7, .ref mA8, .ref mA9, .ref mA10, .ref mA11, .ref mA12, nV 0, nV 0, .ref mA15, .ref mA16, .ref mA17, mV mAb, mV mBe, .ref mA20, zV mCl])), (mA3, cN g 4 (upN (upN mtd 0 (mtd 2)) 1 (upN mtd 0 (mtd 2) 3))), (mA4, cN g 2 (upN mws 0 (mws 1))), (mA5, cN g 32 (mvd mwd 16 16)), (mA6, cN g 2 (upN mcs 0 (mcs 1))), (mA7, cN g 20 (mvd mca 10 10)), (mA8, cN g 2 (upN mbs 0 (mbs 1))), (mA9, cN g 10 (mvd mba 5 5)), (mA10, cN g 3 (upN mlv 0 0)), (mA12, cZ g 3 (upZ mfl 0 ((0 : Nat) : Int)))]) := by
  refine wr_startV (by decide +kernel) (Nat.le_of_ble_eq_true rfl) ?_
  intro p e s m args below meth c Q A ls C hK hA ret hP hD hS hl
  have C : CT p s m args meth c cX10_takes RX10 2 := C
  have hl : lv_has ls 2 [(0, .ref mo0)] := hl
  refine lv_aload_n C.1 C.2.1 dX10_takes_0 rfl (lv_at hl 0 rfl) ?_
  refine r_get C hK hP kw_X10 (ci := 8) rfl 0 4 (by decide) kf_X10_17 rfl rfl dX10_takes_1 ?_
  refine r_iconst 0 C dX10_takes_4 rfl ?_
  refine lv_aload_n C.1 C.2.1 dX10_takes_5 rfl (lv_at hl 0 rfl) ?_
  refine r_get C hK hP kw_X10 (ci := 8) rfl 0 4 (by decide) kf_X10_17 rfl rfl dX10_takes_6 ?_
  refine r_iconst 1 C dX10_takes_9 rfl ?_
  refine r_aldN C hK hP 2 rfl ⟨by omega, by omega⟩ dX10_takes_10 ?_
  refine r_astN C hK hP hD hS 2 rfl ⟨by omega, by omega⟩ dX10_takes_11 (fun H locs hP hD hS => ?_)
  have hP : va_P g.1 vwCl [(mo0, .inr (8, [nV mL, .ref mA1, nV mAt, .ref mA3, .ref mA4, .ref mA5, .ref mA6, .ref mA7, .ref mA8, .ref mA9, .ref mA10, .ref mA11, .ref mA12, nV kz, nV dn, .ref mA15, .ref mA16, .ref mA17, mV mAb, mV mBe, .ref mA20, zV mCl])), (mA3, cN g 4 mtd), (mA4, cN g 2 (upN mws 0 (mws 1))), (mA5, cN g 32 mwd), (mA6, cN g 2 mcs), (mA7, cN g 20 mca), (mA8, cN g 2 mbs), (mA9, cN g 10 mba), (mA10, cN g 3 mlv), (mA12, cZ g 3 mfl)] H := hP
  have hD : va_D A [(mo0, .inr (8, [nV mL, .ref mA1, nV mAt, .ref mA3, .ref mA4, .ref mA5, .ref mA6, .ref mA7, .ref mA8, .ref mA9, .ref mA10, .ref mA11, .ref mA12, nV kz, nV dn, .ref mA15, .ref mA16, .ref mA17, mV mAb, mV mBe, .ref mA20, zV mCl])), (mA3, cN g 4 mtd), (mA4, cN g 2 (upN mws 0 (mws 1))), (mA5, cN g 32 mwd), (mA6, cN g 2 mcs), (mA7, cN g 20 mca), (mA8, cN g 2 mbs), (mA9, cN g 10 mba), (mA10, cN g 3 mlv), (mA12, cZ g 3 mfl)] := hD
  refine lv_aload_n C.1 C.2.1 dX10_takes_12 rfl (lv_at hl 0 rfl) ?_
  refine r_get C hK hP kw_X10 (ci := 8) rfl 0 6 (by decide) kf_X10_23 rfl rfl dX10_takes_13 ?_
  refine r_iconst 0 C dX10_takes_16 rfl ?_
  refine lv_aload_n C.1 C.2.1 dX10_takes_17 rfl (lv_at hl 0 rfl) ?_
  refine r_get C hK hP kw_X10 (ci := 8) rfl 0 6 (by decide) kf_X10_23 rfl rfl dX10_takes_18 ?_
  refine r_iconst 1 C dX10_takes_21 rfl ?_
  refine r_aldN C hK hP 4 rfl ⟨by omega, by omega⟩ dX10_takes_22 ?_
  refine r_astN C hK hP hD hS 4 rfl ⟨by omega, by omega⟩ dX10_takes_23 (fun H locs hP hD hS => ?_)
  have hP : va_P g.1 vwCl [(mo0, .inr (8, [nV mL, .ref mA1, nV mAt, .ref mA3, .ref mA4, .ref mA5, .ref mA6, .ref mA7, .ref mA8, .ref mA9, .ref mA10, .ref mA11, .ref mA12, nV kz, nV dn, .ref mA15, .ref mA16, .ref mA17, mV mAb, mV mBe, .ref mA20, zV mCl])), (mA3, cN g 4 mtd), (mA4, cN g 2 (upN mws 0 (mws 1))), (mA5, cN g 32 mwd), (mA6, cN g 2 (upN mcs 0 (mcs 1))), (mA7, cN g 20 mca), (mA8, cN g 2 mbs), (mA9, cN g 10 mba), (mA10, cN g 3 mlv), (mA12, cZ g 3 mfl)] H := hP
  have hD : va_D A [(mo0, .inr (8, [nV mL, .ref mA1, nV mAt, .ref mA3, .ref mA4, .ref mA5, .ref mA6, .ref mA7, .ref mA8, .ref mA9, .ref mA10, .ref mA11, .ref mA12, nV kz, nV dn, .ref mA15, .ref mA16, .ref mA17, mV mAb, mV mBe, .ref mA20, zV mCl])), (mA3, cN g 4 mtd), (mA4, cN g 2 (upN mws 0 (mws 1))), (mA5, cN g 32 mwd), (mA6, cN g 2 (upN mcs 0 (mcs 1))), (mA7, cN g 20 mca), (mA8, cN g 2 mbs), (mA9, cN g 10 mba), (mA10, cN g 3 mlv), (mA12, cZ g 3 mfl)] := hD
  refine lv_aload_n C.1 C.2.1 dX10_takes_24 rfl (lv_at hl 0 rfl) ?_
  refine r_get C hK hP kw_X10 (ci := 8) rfl 0 8 (by decide) kf_X10_29 rfl rfl dX10_takes_25 ?_
  refine r_iconst 0 C dX10_takes_28 rfl ?_
  refine lv_aload_n C.1 C.2.1 dX10_takes_29 rfl (lv_at hl 0 rfl) ?_
  refine r_get C hK hP kw_X10 (ci := 8) rfl 0 8 (by decide) kf_X10_29 rfl rfl dX10_takes_30 ?_
  refine r_iconst 1 C dX10_takes_33 rfl ?_
  refine r_aldN C hK hP 6 rfl ⟨by omega, by omega⟩ dX10_takes_34 ?_
  refine r_astN C hK hP hD hS 6 rfl ⟨by omega, by omega⟩ dX10_takes_35 (fun H locs hP hD hS => ?_)
  have hP : va_P g.1 vwCl [(mo0, .inr (8, [nV mL, .ref mA1, nV mAt, .ref mA3, .ref mA4, .ref mA5, .ref mA6, .ref mA7, .ref mA8, .ref mA9, .ref mA10, .ref mA11, .ref mA12, nV kz, nV dn, .ref mA15, .ref mA16, .ref mA17, mV mAb, mV mBe, .ref mA20, zV mCl])), (mA3, cN g 4 mtd), (mA4, cN g 2 (upN mws 0 (mws 1))), (mA5, cN g 32 mwd), (mA6, cN g 2 (upN mcs 0 (mcs 1))), (mA7, cN g 20 mca), (mA8, cN g 2 (upN mbs 0 (mbs 1))), (mA9, cN g 10 mba), (mA10, cN g 3 mlv), (mA12, cZ g 3 mfl)] H := hP
  have hD : va_D A [(mo0, .inr (8, [nV mL, .ref mA1, nV mAt, .ref mA3, .ref mA4, .ref mA5, .ref mA6, .ref mA7, .ref mA8, .ref mA9, .ref mA10, .ref mA11, .ref mA12, nV kz, nV dn, .ref mA15, .ref mA16, .ref mA17, mV mAb, mV mBe, .ref mA20, zV mCl])), (mA3, cN g 4 mtd), (mA4, cN g 2 (upN mws 0 (mws 1))), (mA5, cN g 32 mwd), (mA6, cN g 2 (upN mcs 0 (mcs 1))), (mA7, cN g 20 mca), (mA8, cN g 2 (upN mbs 0 (mbs 1))), (mA9, cN g 10 mba), (mA10, cN g 3 mlv), (mA12, cZ g 3 mfl)] := hD
  refine lv_aload_n C.1 C.2.1 dX10_takes_36 rfl (lv_at hl 0 rfl) ?_
  refine r_get C hK hP kw_X10 (ci := 8) rfl 0 3 (by decide) kf_X10_13 rfl rfl dX10_takes_37 ?_
  refine r_iconst 0 C dX10_takes_40 rfl ?_
  refine lv_aload_n C.1 C.2.1 dX10_takes_41 rfl (lv_at hl 0 rfl) ?_
  refine r_get C hK hP kw_X10 (ci := 8) rfl 0 3 (by decide) kf_X10_13 rfl rfl dX10_takes_42 ?_
  refine r_iconst 2 C dX10_takes_45 rfl ?_
  refine r_aldN C hK hP 1 rfl ⟨by omega, by omega⟩ dX10_takes_46 ?_
  refine r_astN C hK hP hD hS 1 rfl ⟨by omega, by omega⟩ dX10_takes_47 (fun H locs hP hD hS => ?_)
  have hP : va_P g.1 vwCl [(mo0, .inr (8, [nV mL, .ref mA1, nV mAt, .ref mA3, .ref mA4, .ref mA5, .ref mA6, .ref mA7, .ref mA8, .ref mA9, .ref mA10, .ref mA11, .ref mA12, nV kz, nV dn, .ref mA15, .ref mA16, .ref mA17, mV mAb, mV mBe, .ref mA20, zV mCl])), (mA3, cN g 4 (upN mtd 0 (mtd 2))), (mA4, cN g 2 (upN mws 0 (mws 1))), (mA5, cN g 32 mwd), (mA6, cN g 2 (upN mcs 0 (mcs 1))), (mA7, cN g 20 mca), (mA8, cN g 2 (upN mbs 0 (mbs 1))), (mA9, cN g 10 mba), (mA10, cN g 3 mlv), (mA12, cZ g 3 mfl)] H := hP
  have hD : va_D A [(mo0, .inr (8, [nV mL, .ref mA1, nV mAt, .ref mA3, .ref mA4, .ref mA5, .ref mA6, .ref mA7, .ref mA8, .ref mA9, .ref mA10, .ref mA11, .ref mA12, nV kz, nV dn, .ref mA15, .ref mA16, .ref mA17, mV mAb, mV mBe, .ref mA20, zV mCl])), (mA3, cN g 4 (upN mtd 0 (mtd 2))), (mA4, cN g 2 (upN mws 0 (mws 1))), (mA5, cN g 32 mwd), (mA6, cN g 2 (upN mcs 0 (mcs 1))), (mA7, cN g 20 mca), (mA8, cN g 2 (upN mbs 0 (mbs 1))), (mA9, cN g 10 mba), (mA10, cN g 3 mlv), (mA12, cZ g 3 mfl)] := hD
  refine lv_aload_n C.1 C.2.1 dX10_takes_48 rfl (lv_at hl 0 rfl) ?_
  refine r_get C hK hP kw_X10 (ci := 8) rfl 0 3 (by decide) kf_X10_13 rfl rfl dX10_takes_49 ?_
  refine r_iconst 1 C dX10_takes_52 rfl ?_
  refine lv_aload_n C.1 C.2.1 dX10_takes_53 rfl (lv_at hl 0 rfl) ?_
  refine r_get C hK hP kw_X10 (ci := 8) rfl 0 3 (by decide) kf_X10_13 rfl rfl dX10_takes_54 ?_
  refine r_iconst 3 C dX10_takes_57 rfl ?_
  refine r_aldN C hK hP 1 rfl ⟨by omega, by omega⟩ dX10_takes_58 ?_
  refine r_astN C hK hP hD hS 1 rfl ⟨by omega, by omega⟩ dX10_takes_59 (fun H locs hP hD hS => ?_)
  have hP : va_P g.1 vwCl [(mo0, .inr (8, [nV mL, .ref mA1, nV mAt, .ref mA3, .ref mA4, .ref mA5, .ref mA6, .ref mA7, .ref mA8, .ref mA9, .ref mA10, .ref mA11, .ref mA12, nV kz, nV dn, .ref mA15, .ref mA16, .ref mA17, mV mAb, mV mBe, .ref mA20, zV mCl])), (mA3, cN g 4 (upN (upN mtd 0 (mtd 2)) 1 ((upN mtd 0 (mtd 2)) 3))), (mA4, cN g 2 (upN mws 0 (mws 1))), (mA5, cN g 32 mwd), (mA6, cN g 2 (upN mcs 0 (mcs 1))), (mA7, cN g 20 mca), (mA8, cN g 2 (upN mbs 0 (mbs 1))), (mA9, cN g 10 mba), (mA10, cN g 3 mlv), (mA12, cZ g 3 mfl)] H := hP
  have hD : va_D A [(mo0, .inr (8, [nV mL, .ref mA1, nV mAt, .ref mA3, .ref mA4, .ref mA5, .ref mA6, .ref mA7, .ref mA8, .ref mA9, .ref mA10, .ref mA11, .ref mA12, nV kz, nV dn, .ref mA15, .ref mA16, .ref mA17, mV mAb, mV mBe, .ref mA20, zV mCl])), (mA3, cN g 4 (upN (upN mtd 0 (mtd 2)) 1 ((upN mtd 0 (mtd 2)) 3))), (mA4, cN g 2 (upN mws 0 (mws 1))), (mA5, cN g 32 mwd), (mA6, cN g 2 (upN mcs 0 (mcs 1))), (mA7, cN g 20 mca), (mA8, cN g 2 (upN mbs 0 (mbs 1))), (mA9, cN g 10 mba), (mA10, cN g 3 mlv), (mA12, cZ g 3 mfl)] := hD
  refine r_iconst 0 C dX10_takes_60 rfl ?_
  refine lv_istore_n (lv' := [(1, nV 0), (0, .ref mo0)]) C.1 C.2.1 dX10_takes_61 rfl hl (by decide) rfl (fun ls hl => ?_)
  have L62 : ∀ (n_62 : Nat) (i : Nat) (wA : Nat → Nat) (cA : Nat → Nat) (bA : Nat → Nat) (H : Heap) (locs : List Loc) (ls : Array Slot) (hi : i ≤ 16) (hw : wA = mvd mwd 16 i) (hcA : cA = mvd mca 10 (min i 10)) (hb : bA = mvd mba 5 (min i 5)) (hm : 16 - i < n_62) (hP : va_P g.1 vwCl [(mo0, .inr (8, [nV mL, .ref mA1, nV mAt, .ref mA3, .ref mA4, .ref mA5, .ref mA6, .ref mA7, .ref mA8, .ref mA9, .ref mA10, .ref mA11, .ref mA12, nV kz, nV dn, .ref mA15, .ref mA16, .ref mA17, mV mAb, mV mBe, .ref mA20, zV mCl])), (mA3, cN g 4 (upN (upN mtd 0 (mtd 2)) 1 ((upN mtd 0 (mtd 2)) 3))), (mA4, cN g 2 (upN mws 0 (mws 1))), (mA5, cN g 32 wA), (mA6, cN g 2 (upN mcs 0 (mcs 1))), (mA7, cN g 20 cA), (mA8, cN g 2 (upN mbs 0 (mbs 1))), (mA9, cN g 10 bA), (mA10, cN g 3 mlv), (mA12, cZ g 3 mfl)] H) (hD : va_D A [(mo0, .inr (8, [nV mL, .ref mA1, nV mAt, .ref mA3, .ref mA4, .ref mA5, .ref mA6, .ref mA7, .ref mA8, .ref mA9, .ref mA10, .ref mA11, .ref mA12, nV kz, nV dn, .ref mA15, .ref mA16, .ref mA17, mV mAb, mV mBe, .ref mA20, zV mCl])), (mA3, cN g 4 (upN (upN mtd 0 (mtd 2)) 1 ((upN mtd 0 (mtd 2)) 3))), (mA4, cN g 2 (upN mws 0 (mws 1))), (mA5, cN g 32 wA), (mA6, cN g 2 (upN mcs 0 (mcs 1))), (mA7, cN g 20 cA), (mA8, cN g 2 (upN mbs 0 (mbs 1))), (mA9, cN g 10 bA), (mA10, cN g 3 mlv), (mA12, cZ g 3 mfl)]) (hS : va_S A s.heap H locs) (hl : lv_has ls 2 [(1, nV i), (0, .ref mo0)]), W p l e (rD 1) s m args below meth c H locs 0 0 Q (F0 m 62 ls []) := by
    intro n_62
    induction n_62 with
    | zero => intro i wA cA bA H locs ls hi hw hcA hb hm hP hD hS hl; exact absurd hm (Nat.not_lt_zero _)
    | succ n_62 ih_62 =>
      intro i wA cA bA H locs ls hi hw hcA hb hm hP hD hS hl
      refine lv_iload_n C.1 C.2.1 dX10_takes_62 rfl (lv_at hl 0 rfl) ?_
      refine r_bipush 16 C dX10_takes_63 (by decide) ?_
      refine r_cge 129 C dX10_takes_65 rfl ⟨rgN (by omega), rgN (by decide)⟩ (fun h_1 => ?_) (fun h_1 => ?_)
      · skip
        obtain rfl : i = 16 := by omega
        rw [show min 16 10 = 10 from rfl] at hcA
        rw [show min 16 5 = 5 from rfl] at hb
        subst hw hcA hb
        refine lv_aload_n C.1 C.2.1 dX10_takes_129 rfl (lv_at hl 1 rfl) ?_
        refine r_get C hK hP kw_X10 (ci := 8) rfl 0 10 (by decide) kf_X10_35 rfl rfl dX10_takes_130 ?_
        refine r_iconst 0 C dX10_takes_133 rfl ?_
        refine r_iconst 0 C dX10_takes_134 rfl ?_
        refine r_astN C hK hP hD hS 8 rfl ⟨by omega, by omega⟩ dX10_takes_135 (fun H locs hP hD hS => ?_)
        have hP : va_P g.1 vwCl [(mo0, .inr (8, [nV mL, .ref mA1, nV mAt, .ref mA3, .ref mA4, .ref mA5, .ref mA6, .ref mA7, .ref mA8, .ref mA9, .ref mA10, .ref mA11, .ref mA12, nV kz, nV dn, .ref mA15, .ref mA16, .ref mA17, mV mAb, mV mBe, .ref mA20, zV mCl])), (mA3, cN g 4 (upN (upN mtd 0 (mtd 2)) 1 ((upN mtd 0 (mtd 2)) 3))), (mA4, cN g 2 (upN mws 0 (mws 1))), (mA5, cN g 32 (mvd mwd 16 16)), (mA6, cN g 2 (upN mcs 0 (mcs 1))), (mA7, cN g 20 (mvd mca 10 10)), (mA8, cN g 2 (upN mbs 0 (mbs 1))), (mA9, cN g 10 (mvd mba 5 5)), (mA10, cN g 3 (upN mlv 0 0)), (mA12, cZ g 3 mfl)] H := hP
        have hD : va_D A [(mo0, .inr (8, [nV mL, .ref mA1, nV mAt, .ref mA3, .ref mA4, .ref mA5, .ref mA6, .ref mA7, .ref mA8, .ref mA9, .ref mA10, .ref mA11, .ref mA12, nV kz, nV dn, .ref mA15, .ref mA16, .ref mA17, mV mAb, mV mBe, .ref mA20, zV mCl])), (mA3, cN g 4 (upN (upN mtd 0 (mtd 2)) 1 ((upN mtd 0 (mtd 2)) 3))), (mA4, cN g 2 (upN mws 0 (mws 1))), (mA5, cN g 32 (mvd mwd 16 16)), (mA6, cN g 2 (upN mcs 0 (mcs 1))), (mA7, cN g 20 (mvd mca 10 10)), (mA8, cN g 2 (upN mbs 0 (mbs 1))), (mA9, cN g 10 (mvd mba 5 5)), (mA10, cN g 3 (upN mlv 0 0)), (mA12, cZ g 3 mfl)] := hD
        refine lv_aload_n C.1 C.2.1 dX10_takes_136 rfl (lv_at hl 1 rfl) ?_
        refine r_get C hK hP kw_X10 (ci := 8) rfl 0 12 (by decide) kf_X10_41 rfl rfl dX10_takes_137 ?_
        refine r_iconst 0 C dX10_takes_140 rfl ?_
        refine r_iconst 0 C dX10_takes_141 rfl ?_
        refine r_astZ C hK hP hD hS 9 rfl ⟨by omega, by omega⟩ dX10_takes_142 (fun H locs hP hD hS => ?_)
        have hP : va_P g.1 vwCl [(mo0, .inr (8, [nV mL, .ref mA1, nV mAt, .ref mA3, .ref mA4, .ref mA5, .ref mA6, .ref mA7, .ref mA8, .ref mA9, .ref mA10, .ref mA11, .ref mA12, nV kz, nV dn, .ref mA15, .ref mA16, .ref mA17, mV mAb, mV mBe, .ref mA20, zV mCl])), (mA3, cN g 4 (upN (upN mtd 0 (mtd 2)) 1 ((upN mtd 0 (mtd 2)) 3))), (mA4, cN g 2 (upN mws 0 (mws 1))), (mA5, cN g 32 (mvd mwd 16 16)), (mA6, cN g 2 (upN mcs 0 (mcs 1))), (mA7, cN g 20 (mvd mca 10 10)), (mA8, cN g 2 (upN mbs 0 (mbs 1))), (mA9, cN g 10 (mvd mba 5 5)), (mA10, cN g 3 (upN mlv 0 0)), (mA12, cZ g 3 (upZ mfl 0 ((0 : Nat) : Int)))] H := hP
        have hD : va_D A [(mo0, .inr (8, [nV mL, .ref mA1, nV mAt, .ref mA3, .ref mA4, .ref mA5, .ref mA6, .ref mA7, .ref mA8, .ref mA9, .ref mA10, .ref mA11, .ref mA12, nV kz, nV dn, .ref mA15, .ref mA16, .ref mA17, mV mAb, mV mBe, .ref mA20, zV mCl])), (mA3, cN g 4 (upN (upN mtd 0 (mtd 2)) 1 ((upN mtd 0 (mtd 2)) 3))), (mA4, cN g 2 (upN mws 0 (mws 1))), (mA5, cN g 32 (mvd mwd 16 16)), (mA6, cN g 2 (upN mcs 0 (mcs 1))), (mA7, cN g 20 (mvd mca 10 10)), (mA8, cN g 2 (upN mbs 0 (mbs 1))), (mA9, cN g 10 (mvd mba 5 5)), (mA10, cN g 3 (upN mlv 0 0)), (mA12, cZ g 3 (upZ mfl 0 ((0 : Nat) : Int)))] := hD
        refine lv_aload_n C.1 C.2.1 dX10_takes_143 rfl (lv_at hl 1 rfl) ?_
        refine r_iconst 0 C dX10_takes_144 rfl ?_
        refine r_put (v := nV 0) C hK hP hD hS kw_X10 tyX10_ok nmX10 (ci := 8) rfl 0 14 (by decide) kf_X10_98 rfl rfl rfl rfl rfl (Nat.le_of_ble_eq_true rfl) dX10_takes_145 (fun H locs hP hD hS => ?_)
        have hP : va_P g.1 vwCl [(mo0, .inr (8, [nV mL, .ref mA1, nV mAt, .ref mA3, .ref mA4, .ref mA5, .ref mA6, .ref mA7, .ref mA8, .ref mA9, .ref mA10, .ref mA11, .ref mA12, nV kz, nV 0, .ref mA15, .ref mA16, .ref mA17, mV mAb, mV mBe, .ref mA20, zV mCl])), (mA3, cN g 4 (upN (upN mtd 0 (mtd 2)) 1 ((upN mtd 0 (mtd 2)) 3))), (mA4, cN g 2 (upN mws 0 (mws 1))), (mA5, cN g 32 (mvd mwd 16 16)), (mA6, cN g 2 (upN mcs 0 (mcs 1))), (mA7, cN g 20 (mvd mca 10 10)), (mA8, cN g 2 (upN mbs 0 (mbs 1))), (mA9, cN g 10 (mvd mba 5 5)), (mA10, cN g 3 (upN mlv 0 0)), (mA12, cZ g 3 (upZ mfl 0 ((0 : Nat) : Int)))] H := hP
        have hD : va_D A [(mo0, .inr (8, [nV mL, .ref mA1, nV mAt, .ref mA3, .ref mA4, .ref mA5, .ref mA6, .ref mA7, .ref mA8, .ref mA9, .ref mA10, .ref mA11, .ref mA12, nV kz, nV 0, .ref mA15, .ref mA16, .ref mA17, mV mAb, mV mBe, .ref mA20, zV mCl])), (mA3, cN g 4 (upN (upN mtd 0 (mtd 2)) 1 ((upN mtd 0 (mtd 2)) 3))), (mA4, cN g 2 (upN mws 0 (mws 1))), (mA5, cN g 32 (mvd mwd 16 16)), (mA6, cN g 2 (upN mcs 0 (mcs 1))), (mA7, cN g 20 (mvd mca 10 10)), (mA8, cN g 2 (upN mbs 0 (mbs 1))), (mA9, cN g 10 (mvd mba 5 5)), (mA10, cN g 3 (upN mlv 0 0)), (mA12, cZ g 3 (upZ mfl 0 ((0 : Nat) : Int)))] := hD
        refine lv_aload_n C.1 C.2.1 dX10_takes_148 rfl (lv_at hl 1 rfl) ?_
        refine r_iconst 0 C dX10_takes_149 rfl ?_
        refine r_put (v := nV 0) C hK hP hD hS kw_X10 tyX10_ok nmX10 (ci := 8) rfl 0 13 (by decide) kf_X10_101 rfl rfl rfl rfl rfl (Nat.le_of_ble_eq_true rfl) dX10_takes_150 (fun H locs hP hD hS => ?_)
        have hP : va_P g.1 vwCl [(mo0, .inr (8, [nV mL, .ref mA1, nV mAt, .ref mA3, .ref mA4, .ref mA5, .ref mA6, .ref mA7, .ref mA8, .ref mA9, .ref mA10, .ref mA11, .ref mA12, nV 0, nV 0, .ref mA15, .ref mA16, .ref mA17, mV mAb, mV mBe, .ref mA20, zV mCl])), (mA3, cN g 4 (upN (upN mtd 0 (mtd 2)) 1 ((upN mtd 0 (mtd 2)) 3))), (mA4, cN g 2 (upN mws 0 (mws 1))), (mA5, cN g 32 (mvd mwd 16 16)), (mA6, cN g 2 (upN mcs 0 (mcs 1))), (mA7, cN g 20 (mvd mca 10 10)), (mA8, cN g 2 (upN mbs 0 (mbs 1))), (mA9, cN g 10 (mvd mba 5 5)), (mA10, cN g 3 (upN mlv 0 0)), (mA12, cZ g 3 (upZ mfl 0 ((0 : Nat) : Int)))] H := hP
        have hD : va_D A [(mo0, .inr (8, [nV mL, .ref mA1, nV mAt, .ref mA3, .ref mA4, .ref mA5, .ref mA6, .ref mA7, .ref mA8, .ref mA9, .ref mA10, .ref mA11, .ref mA12, nV 0, nV 0, .ref mA15, .ref mA16, .ref mA17, mV mAb, mV mBe, .ref mA20, zV mCl])), (mA3, cN g 4 (upN (upN mtd 0 (mtd 2)) 1 ((upN mtd 0 (mtd 2)) 3))), (mA4, cN g 2 (upN mws 0 (mws 1))), (mA5, cN g 32 (mvd mwd 16 16)), (mA6, cN g 2 (upN mcs 0 (mcs 1))), (mA7, cN g 20 (mvd mca 10 10)), (mA8, cN g 2 (upN mbs 0 (mbs 1))), (mA9, cN g 10 (mvd mba 5 5)), (mA10, cN g 3 (upN mlv 0 0)), (mA12, cZ g 3 (upZ mfl 0 ((0 : Nat) : Int)))] := hD
        exact ret (()) dX10_takes_153 hS hP (trivial)
      refine lv_aload_n C.1 C.2.1 dX10_takes_68 rfl (lv_at hl 1 rfl) ?_
      refine r_get C hK hP kw_X10 (ci := 8) rfl 0 5 (by decide) kf_X10_20 rfl rfl dX10_takes_69 ?_
      refine lv_iload_n C.1 C.2.1 dX10_takes_72 rfl (lv_at hl 0 rfl) ?_
      refine lv_aload_n C.1 C.2.1 dX10_takes_73 rfl (lv_at hl 1 rfl) ?_
      refine r_get C hK hP kw_X10 (ci := 8) rfl 0 5 (by decide) kf_X10_20 rfl rfl dX10_takes_74 ?_
      refine r_bipush 16 C dX10_takes_77 (by decide) ?_
      refine lv_iload_n C.1 C.2.1 dX10_takes_79 rfl (lv_at hl 0 rfl) ?_
      refine r_addN C dX10_takes_80 ?_
      refine r_aldN C hK hP 3 rfl ⟨by omega, by omega⟩ dX10_takes_81 ?_
      refine r_astN C hK hP hD hS 3 rfl ⟨by omega, by omega⟩ dX10_takes_82 (fun H locs hP hD hS => ?_)
      have hP : va_P g.1 vwCl [(mo0, .inr (8, [nV mL, .ref mA1, nV mAt, .ref mA3, .ref mA4, .ref mA5, .ref mA6, .ref mA7, .ref mA8, .ref mA9, .ref mA10, .ref mA11, .ref mA12, nV kz, nV dn, .ref mA15, .ref mA16, .ref mA17, mV mAb, mV mBe, .ref mA20, zV mCl])), (mA3, cN g 4 (upN (upN mtd 0 (mtd 2)) 1 ((upN mtd 0 (mtd 2)) 3))), (mA4, cN g 2 (upN mws 0 (mws 1))), (mA5, cN g 32 (upN wA i (wA (16 + i)))), (mA6, cN g 2 (upN mcs 0 (mcs 1))), (mA7, cN g 20 cA), (mA8, cN g 2 (upN mbs 0 (mbs 1))), (mA9, cN g 10 bA), (mA10, cN g 3 mlv), (mA12, cZ g 3 mfl)] H := hP
      have hD : va_D A [(mo0, .inr (8, [nV mL, .ref mA1, nV mAt, .ref mA3, .ref mA4, .ref mA5, .ref mA6, .ref mA7, .ref mA8, .ref mA9, .ref mA10, .ref mA11, .ref mA12, nV kz, nV dn, .ref mA15, .ref mA16, .ref mA17, mV mAb, mV mBe, .ref mA20, zV mCl])), (mA3, cN g 4 (upN (upN mtd 0 (mtd 2)) 1 ((upN mtd 0 (mtd 2)) 3))), (mA4, cN g 2 (upN mws 0 (mws 1))), (mA5, cN g 32 (upN wA i (wA (16 + i)))), (mA6, cN g 2 (upN mcs 0 (mcs 1))), (mA7, cN g 20 cA), (mA8, cN g 2 (upN mbs 0 (mbs 1))), (mA9, cN g 10 bA), (mA10, cN g 3 mlv), (mA12, cZ g 3 mfl)] := hD
      refine lv_iload_n C.1 C.2.1 dX10_takes_83 rfl (lv_at hl 0 rfl) ?_
      refine r_bipush 10 C dX10_takes_84 (by decide) ?_
      refine r_cge 104 C dX10_takes_86 rfl ⟨rgN (by omega), rgN (by decide)⟩ (fun h_2 => ?_) (fun h_2 => ?_)
      · skip
        refine lv_iload_n C.1 C.2.1 dX10_takes_104 rfl (lv_at hl 0 rfl) ?_
        refine r_iconst 5 C dX10_takes_105 rfl ?_
        refine r_cge 123 C dX10_takes_106 rfl ⟨rgN (by omega), rgN (by decide)⟩ (fun h_3 => ?_) (fun h_3 => ?_)
        · skip
          refine r_incN (k := 0) (n := 1) [(1, nV (i + 1)), (0, .ref mo0)] C dX10_takes_123 hl rfl rfl (by decide) rfl (fun ls hl => ?_)
          refine r_goto 62 C dX10_takes_126 rfl ?_
          exact ih_62 (i + 1) (upN wA i (wA (16 + i))) cA bA _ _ _ (by first | assumption | omega) (by rw [hw]; exact mvd_s (by omega)) (by rw [hcA, show min i 10 = 10 by omega, show min (i + 1) 10 = 10 by omega]) (by rw [hb, show min i 5 = 5 by omega, show min (i + 1) 5 = 5 by omega]) (by omega) hP hD hS (lv_sub hl [0, 1] rfl)
        refine lv_aload_n C.1 C.2.1 dX10_takes_109 rfl (lv_at hl 1 rfl) ?_
        refine r_get C hK hP kw_X10 (ci := 8) rfl 0 9 (by decide) kf_X10_32 rfl rfl dX10_takes_110 ?_
        refine lv_iload_n C.1 C.2.1 dX10_takes_113 rfl (lv_at hl 0 rfl) ?_
        refine lv_aload_n C.1 C.2.1 dX10_takes_114 rfl (lv_at hl 1 rfl) ?_
        refine r_get C hK hP kw_X10 (ci := 8) rfl 0 9 (by decide) kf_X10_32 rfl rfl dX10_takes_115 ?_
        refine r_iconst 5 C dX10_takes_118 rfl ?_
        refine lv_iload_n C.1 C.2.1 dX10_takes_119 rfl (lv_at hl 0 rfl) ?_
        refine r_addN C dX10_takes_120 ?_
        refine r_aldN C hK hP 7 rfl ⟨by omega, by omega⟩ dX10_takes_121 ?_
        refine r_astN C hK hP hD hS 7 rfl ⟨by omega, by omega⟩ dX10_takes_122 (fun H locs hP hD hS => ?_)
        have hP : va_P g.1 vwCl [(mo0, .inr (8, [nV mL, .ref mA1, nV mAt, .ref mA3, .ref mA4, .ref mA5, .ref mA6, .ref mA7, .ref mA8, .ref mA9, .ref mA10, .ref mA11, .ref mA12, nV kz, nV dn, .ref mA15, .ref mA16, .ref mA17, mV mAb, mV mBe, .ref mA20, zV mCl])), (mA3, cN g 4 (upN (upN mtd 0 (mtd 2)) 1 ((upN mtd 0 (mtd 2)) 3))), (mA4, cN g 2 (upN mws 0 (mws 1))), (mA5, cN g 32 (upN wA i (wA (16 + i)))), (mA6, cN g 2 (upN mcs 0 (mcs 1))), (mA7, cN g 20 cA), (mA8, cN g 2 (upN mbs 0 (mbs 1))), (mA9, cN g 10 (upN bA i (bA (5 + i)))), (mA10, cN g 3 mlv), (mA12, cZ g 3 mfl)] H := hP
        have hD : va_D A [(mo0, .inr (8, [nV mL, .ref mA1, nV mAt, .ref mA3, .ref mA4, .ref mA5, .ref mA6, .ref mA7, .ref mA8, .ref mA9, .ref mA10, .ref mA11, .ref mA12, nV kz, nV dn, .ref mA15, .ref mA16, .ref mA17, mV mAb, mV mBe, .ref mA20, zV mCl])), (mA3, cN g 4 (upN (upN mtd 0 (mtd 2)) 1 ((upN mtd 0 (mtd 2)) 3))), (mA4, cN g 2 (upN mws 0 (mws 1))), (mA5, cN g 32 (upN wA i (wA (16 + i)))), (mA6, cN g 2 (upN mcs 0 (mcs 1))), (mA7, cN g 20 cA), (mA8, cN g 2 (upN mbs 0 (mbs 1))), (mA9, cN g 10 (upN bA i (bA (5 + i)))), (mA10, cN g 3 mlv), (mA12, cZ g 3 mfl)] := hD
        refine r_incN (k := 0) (n := 1) [(1, nV (i + 1)), (0, .ref mo0)] C dX10_takes_123 hl rfl rfl (by decide) rfl (fun ls hl => ?_)
        refine r_goto 62 C dX10_takes_126 rfl ?_
        exact ih_62 (i + 1) (upN wA i (wA (16 + i))) cA (upN bA i (bA (5 + i))) _ _ _ (by first | assumption | omega) (by rw [hw]; exact mvd_s (by omega)) (by rw [hcA, show min i 10 = 10 by omega, show min (i + 1) 10 = 10 by omega]) (by rw [hb, show min i 5 = i by omega, show min (i + 1) 5 = i + 1 by omega]; exact mvd_s (by omega)) (by omega) hP hD hS (lv_sub hl [0, 1] rfl)
      refine lv_aload_n C.1 C.2.1 dX10_takes_89 rfl (lv_at hl 1 rfl) ?_
      refine r_get C hK hP kw_X10 (ci := 8) rfl 0 7 (by decide) kf_X10_26 rfl rfl dX10_takes_90 ?_
      refine lv_iload_n C.1 C.2.1 dX10_takes_93 rfl (lv_at hl 0 rfl) ?_
      refine lv_aload_n C.1 C.2.1 dX10_takes_94 rfl (lv_at hl 1 rfl) ?_
      refine r_get C hK hP kw_X10 (ci := 8) rfl 0 7 (by decide) kf_X10_26 rfl rfl dX10_takes_95 ?_
      refine r_bipush 10 C dX10_takes_98 (by decide) ?_
      refine lv_iload_n C.1 C.2.1 dX10_takes_100 rfl (lv_at hl 0 rfl) ?_
      refine r_addN C dX10_takes_101 ?_
      refine r_aldN C hK hP 5 rfl ⟨by omega, by omega⟩ dX10_takes_102 ?_
      refine r_astN C hK hP hD hS 5 rfl ⟨by omega, by omega⟩ dX10_takes_103 (fun H locs hP hD hS => ?_)
      have hP : va_P g.1 vwCl [(mo0, .inr (8, [nV mL, .ref mA1, nV mAt, .ref mA3, .ref mA4, .ref mA5, .ref mA6, .ref mA7, .ref mA8, .ref mA9, .ref mA10, .ref mA11, .ref mA12, nV kz, nV dn, .ref mA15, .ref mA16, .ref mA17, mV mAb, mV mBe, .ref mA20, zV mCl])), (mA3, cN g 4 (upN (upN mtd 0 (mtd 2)) 1 ((upN mtd 0 (mtd 2)) 3))), (mA4, cN g 2 (upN mws 0 (mws 1))), (mA5, cN g 32 (upN wA i (wA (16 + i)))), (mA6, cN g 2 (upN mcs 0 (mcs 1))), (mA7, cN g 20 (upN cA i (cA (10 + i)))), (mA8, cN g 2 (upN mbs 0 (mbs 1))), (mA9, cN g 10 bA), (mA10, cN g 3 mlv), (mA12, cZ g 3 mfl)] H := hP
      have hD : va_D A [(mo0, .inr (8, [nV mL, .ref mA1, nV mAt, .ref mA3, .ref mA4, .ref mA5, .ref mA6, .ref mA7, .ref mA8, .ref mA9, .ref mA10, .ref mA11, .ref mA12, nV kz, nV dn, .ref mA15, .ref mA16, .ref mA17, mV mAb, mV mBe, .ref mA20, zV mCl])), (mA3, cN g 4 (upN (upN mtd 0 (mtd 2)) 1 ((upN mtd 0 (mtd 2)) 3))), (mA4, cN g 2 (upN mws 0 (mws 1))), (mA5, cN g 32 (upN wA i (wA (16 + i)))), (mA6, cN g 2 (upN mcs 0 (mcs 1))), (mA7, cN g 20 (upN cA i (cA (10 + i)))), (mA8, cN g 2 (upN mbs 0 (mbs 1))), (mA9, cN g 10 bA), (mA10, cN g 3 mlv), (mA12, cZ g 3 mfl)] := hD
      refine lv_iload_n C.1 C.2.1 dX10_takes_104 rfl (lv_at hl 0 rfl) ?_
      refine r_iconst 5 C dX10_takes_105 rfl ?_
      refine r_cge 123 C dX10_takes_106 rfl ⟨rgN (by omega), rgN (by decide)⟩ (fun h_4 => ?_) (fun h_4 => ?_)
      · skip
        refine r_incN (k := 0) (n := 1) [(1, nV (i + 1)), (0, .ref mo0)] C dX10_takes_123 hl rfl rfl (by decide) rfl (fun ls hl => ?_)
        refine r_goto 62 C dX10_takes_126 rfl ?_
        exact ih_62 (i + 1) (upN wA i (wA (16 + i))) (upN cA i (cA (10 + i))) bA _ _ _ (by first | assumption | omega) (by rw [hw]; exact mvd_s (by omega)) (by rw [hcA, show min i 10 = i by omega, show min (i + 1) 10 = i + 1 by omega]; exact mvd_s (by omega)) (by rw [hb, show min i 5 = 5 by omega, show min (i + 1) 5 = 5 by omega]) (by omega) hP hD hS (lv_sub hl [0, 1] rfl)
      refine lv_aload_n C.1 C.2.1 dX10_takes_109 rfl (lv_at hl 1 rfl) ?_
      refine r_get C hK hP kw_X10 (ci := 8) rfl 0 9 (by decide) kf_X10_32 rfl rfl dX10_takes_110 ?_
      refine lv_iload_n C.1 C.2.1 dX10_takes_113 rfl (lv_at hl 0 rfl) ?_
      refine lv_aload_n C.1 C.2.1 dX10_takes_114 rfl (lv_at hl 1 rfl) ?_
      refine r_get C hK hP kw_X10 (ci := 8) rfl 0 9 (by decide) kf_X10_32 rfl rfl dX10_takes_115 ?_
      refine r_iconst 5 C dX10_takes_118 rfl ?_
      refine lv_iload_n C.1 C.2.1 dX10_takes_119 rfl (lv_at hl 0 rfl) ?_
      refine r_addN C dX10_takes_120 ?_
      refine r_aldN C hK hP 7 rfl ⟨by omega, by omega⟩ dX10_takes_121 ?_
      refine r_astN C hK hP hD hS 7 rfl ⟨by omega, by omega⟩ dX10_takes_122 (fun H locs hP hD hS => ?_)
      have hP : va_P g.1 vwCl [(mo0, .inr (8, [nV mL, .ref mA1, nV mAt, .ref mA3, .ref mA4, .ref mA5, .ref mA6, .ref mA7, .ref mA8, .ref mA9, .ref mA10, .ref mA11, .ref mA12, nV kz, nV dn, .ref mA15, .ref mA16, .ref mA17, mV mAb, mV mBe, .ref mA20, zV mCl])), (mA3, cN g 4 (upN (upN mtd 0 (mtd 2)) 1 ((upN mtd 0 (mtd 2)) 3))), (mA4, cN g 2 (upN mws 0 (mws 1))), (mA5, cN g 32 (upN wA i (wA (16 + i)))), (mA6, cN g 2 (upN mcs 0 (mcs 1))), (mA7, cN g 20 (upN cA i (cA (10 + i)))), (mA8, cN g 2 (upN mbs 0 (mbs 1))), (mA9, cN g 10 (upN bA i (bA (5 + i)))), (mA10, cN g 3 mlv), (mA12, cZ g 3 mfl)] H := hP
      have hD : va_D A [(mo0, .inr (8, [nV mL, .ref mA1, nV mAt, .ref mA3, .ref mA4, .ref mA5, .ref mA6, .ref mA7, .ref mA8, .ref mA9, .ref mA10, .ref mA11, .ref mA12, nV kz, nV dn, .ref mA15, .ref mA16, .ref mA17, mV mAb, mV mBe, .ref mA20, zV mCl])), (mA3, cN g 4 (upN (upN mtd 0 (mtd 2)) 1 ((upN mtd 0 (mtd 2)) 3))), (mA4, cN g 2 (upN mws 0 (mws 1))), (mA5, cN g 32 (upN wA i (wA (16 + i)))), (mA6, cN g 2 (upN mcs 0 (mcs 1))), (mA7, cN g 20 (upN cA i (cA (10 + i)))), (mA8, cN g 2 (upN mbs 0 (mbs 1))), (mA9, cN g 10 (upN bA i (bA (5 + i)))), (mA10, cN g 3 mlv), (mA12, cZ g 3 mfl)] := hD
      refine r_incN (k := 0) (n := 1) [(1, nV (i + 1)), (0, .ref mo0)] C dX10_takes_123 hl rfl rfl (by decide) rfl (fun ls hl => ?_)
      refine r_goto 62 C dX10_takes_126 rfl ?_
      exact ih_62 (i + 1) (upN wA i (wA (16 + i))) (upN cA i (cA (10 + i))) (upN bA i (bA (5 + i))) _ _ _ (by first | assumption | omega) (by rw [hw]; exact mvd_s (by omega)) (by rw [hcA, show min i 10 = i by omega, show min (i + 1) 10 = i + 1 by omega]; exact mvd_s (by omega)) (by rw [hb, show min i 5 = i by omega, show min (i + 1) 5 = i + 1 by omega]; exact mvd_s (by omega)) (by omega) hP hD hS (lv_sub hl [0, 1] rfl)
  exact L62 (16 - 0 + 1) 0 mwd mca mba _ _ _ (by first | assumption | omega) (mvd_0.symm) (mvd_0.symm) (mvd_0.symm) (Nat.lt_succ_self _) hP hD hS (lv_sub hl [0, 1] rfl)
set_option maxHeartbeats 4000000 in
set_option maxRecDepth 100000 in
theorem c_X10_isGood (l : Launch) (g : GG) (mo0 : Nat) (mA1 : Nat) (mA3 : Nat) (mA4 : Nat) (mA5 : Nat) (mA6 : Nat) (mA7 : Nat) (mA8 : Nat) (mA9 : Nat) (mA10 : Nat) (mA11 : Nat) (mA12 : Nat) (mA15 : Nat) (mA16 : Nat) (mA17 : Nat) (mA20 : Nat) (mL : Nat) (mAt : Nat) (kz : Nat) (dn : Nat) (mAb : Nat) (mBe : Nat) (mCl : Int) (mtd : Nat → Nat) (mws : Nat → Nat) (mwd : Nat → Nat) (mcs : Nat → Nat) (mca : Nat → Nat) (mbs : Nat → Nat) (mba : Nat → Nat) (mgt : Nat → Int) (vv : VS) (ll : Int) (nu : Nat → Nat) (cnt : Nat) (hDR : DR vv mtd mws mwd mcs mca mbs mba) (hV : VOK vv) (hcnt : cnt = prt ll) (hc0 : cnt ≠ 0) (hnu : ∀ j, j < cnt → mgt j = (nu j : Int)) (hnb : ∀ j, j < cnt → nu j < 100) (hll : rg ll) : WRi g l yX10_isGood cX10_isGood 5 (some .boolean) 3 [(mo0, .inr (8, [nV mL, .ref mA1, nV mAt, .ref mA3, .ref mA4, .ref mA5, .ref mA6, .ref mA7, .ref mA8, .ref mA9, .ref mA10, .ref mA11, .ref mA12, nV kz, nV dn, .ref mA15, .ref mA16, .ref mA17, mV mAb, mV mBe, .ref mA20, zV mCl])), (mA3, cN g 4 mtd), (mA4, cN g 2 mws), (mA5, cN g 32 mwd), (mA6, cN g 2 mcs), (mA7, cN g 20 mca), (mA8, cN g 2 mbs), (mA9, cN g 10 mba), (mA20, cZ g 4 mgt)] [.ref mo0, zV ll] (fun r (uq_ : (Nat → Nat) × (Nat → Nat) × (Nat → Nat) × (Nat → Nat) × (Nat → Nat) × (Nat → Nat) × (Nat → Nat)) => match uq_ with | (td1, ws1, wd1, cs1, ca1, bs1, ba1) => r = bI ((gd vv ll nu).1 = true) ∧ ((gd vv ll nu).1 = true → DR (gd vv ll nu).2 td1 ws1 wd1 cs1 ca1 bs1 ba1) ∧ LK mtd mws mwd mcs mca mbs mba td1 ws1 wd1 cs1 ca1 bs1 ba1) (fun (uq_ : (Nat → Nat) × (Nat → Nat) × (Nat → Nat) × (Nat → Nat) × (Nat → Nat) × (Nat → Nat) × (Nat → Nat)) => match uq_ with | (td1, ws1, wd1, cs1, ca1, bs1, ba1) => [(mo0, .inr (8, [nV mL, .ref mA1, nV mAt, .ref mA3, .ref mA4, .ref mA5, .ref mA6, .ref mA7, .ref mA8, .ref mA9, .ref mA10, .ref mA11, .ref mA12, nV kz, nV dn, .ref mA15, .ref mA16, .ref mA17, mV mAb, mV mBe, .ref mA20, zV mCl])), (mA3, cN g 4 td1), (mA4, cN g 2 ws1), (mA5, cN g 32 wd1), (mA6, cN g 2 cs1), (mA7, cN g 20 ca1), (mA8, cN g 2 bs1), (mA9, cN g 10 ba1), (mA20, cZ g 4 mgt)]) := by
  refine wr_startZ (by decide +kernel) (Nat.le_of_ble_eq_true rfl) ?_
  intro p e s m args below meth c Q A ls C hK hA ret hP hD hS hl
  have C : CT p s m args meth c cX10_isGood RX10 5 := C
  have hl : lv_has ls 5 [(0, .ref mo0), (1, zV ll)] := hl
  obtain ⟨hsg, hwo, hhu, hmi, hkn, hk, hncv, hnbv, hbi, hmo⟩ := id hV
  have hpc := prt_0 (z := ll) (by rw [← hcnt]; exact hc0)
  rw [← hcnt] at hpc
  refine lv_iload_n C.1 C.2.1 dX10_isGood_0 rfl (lv_at hl 1 rfl) ?_
  refine r_bipush 119 C dX10_isGood_1 (by decide) ?_
  refine r_cne 181 C dX10_isGood_3 rfl ⟨⟨by omega, by omega⟩, rgN (by decide)⟩ (fun h_1 => ?_) (fun h_1 => ?_)
  · skip
    refine lv_iload_n C.1 C.2.1 dX10_isGood_181 rfl (lv_at hl 1 rfl) ?_
    refine r_bipush 98 C dX10_isGood_182 (by decide) ?_
    refine r_cne 239 C dX10_isGood_184 rfl ⟨⟨by omega, by omega⟩, rgN (by decide)⟩ (fun h_2 => ?_) (fun h_2 => ?_)
    · skip
      refine lv_iload_n C.1 C.2.1 dX10_isGood_239 rfl (lv_at hl 1 rfl) ?_
      refine r_bipush 99 C dX10_isGood_240 (by decide) ?_
      refine r_cne 335 C dX10_isGood_242 rfl ⟨⟨by omega, by omega⟩, rgN (by decide)⟩ (fun h_3 => ?_) (fun h_3 => ?_)
      · skip
        refine lv_aload_n C.1 C.2.1 dX10_isGood_335 rfl (lv_at hl 0 rfl) ?_
        refine r_iconst 0 C dX10_isGood_336 rfl ?_
        refine r_iconst 0 C dX10_isGood_337 rfl ?_
        refine r_bipush 63 C dX10_isGood_338 (by decide) ?_
        refine ro_callV (As := [nV 0, nV 0, nV 63]) (rest := []) C hK (c_X10_isIn l g mo0 mA1 mA3 mA4 mA5 mA6 mA7 mA8 mA9 mA10 mA11 mA12 mA15 mA16 mA17 mA20 mL mAt kz dn mAb mBe mCl mgt 0 0 63 (nu 0) (by omega) (by first | assumption | omega) (by first | assumption | omega) (hnb 0 (by omega)) (hnu 0 (by omega))) (hP.sub (ws' := [(mo0, .inr (8, [nV mL, .ref mA1, nV mAt, .ref mA3, .ref mA4, .ref mA5, .ref mA6, .ref mA7, .ref mA8, .ref mA9, .ref mA10, .ref mA11, .ref mA12, nV kz, nV dn, .ref mA15, .ref mA16, .ref mA17, mV mAb, mV mBe, .ref mA20, zV mCl])), (mA20, cZ g 4 mgt)]) [0, 8] rfl) (ci := 8) (q0 := 0) rfl rfl kc_X10_isIn kl_X10_94 kn_X10 ki_X10_isIn ke_X10_isIn nk_X10_isIn (rm_lt (by decide) (by decide)) hl rfl (Nat.le_of_ble_eq_true rfl) dX10_isGood_340 (fun r_4 hr_5 => ?_)
        subst hr_5
        refine r_beq 356 C dX10_isGood_343 rfl (fun h_6 => ?_) (fun h_6 => ?_)
        · skip
          refine r_iconst 0 C dX10_isGood_356 rfl ?_
          exact ret ((mtd, mws, mwd, mcs, mca, mbs, mba)) dX10_isGood_357 (by decide) hS hP (⟨bI_z (by rw [gd_k (by omega)]; exact (fun q => by have := of_decide_eq_true q; omega)), fun q => by rw [gd_k (by omega)] at q; exact absurd q ((fun q => by have := of_decide_eq_true q; omega)), LK_r⟩)
        refine lv_aload_n C.1 C.2.1 dX10_isGood_346 rfl (lv_at hl 0 rfl) ?_
        refine r_get C hK hP kw_X10 (ci := 8) rfl 0 8 (by decide) kf_X10_29 rfl rfl dX10_isGood_347 ?_
        refine r_iconst 1 C dX10_isGood_350 rfl ?_
        refine r_aldN C hK hP 6 rfl ⟨by omega, by omega⟩ dX10_isGood_351 ?_
        refine r_top (v' := nV (vnb vv)) (by rw [hDR.2.2.2.1]) ?_
        refine r_iconst 5 C dX10_isGood_352 rfl ?_
        refine r_cne 358 C dX10_isGood_353 rfl ⟨rgN (by omega), rgN (by decide)⟩ (fun h_7 => ?_) (fun h_7 => ?_)
        · skip
          refine lv_aload_n C.1 C.2.1 dX10_isGood_358 rfl (lv_at hl 0 rfl) ?_
          refine r_get C hK hP kw_X10 (ci := 8) rfl 0 9 (by decide) kf_X10_32 rfl rfl dX10_isGood_359 ?_
          refine r_iconst 5 C dX10_isGood_362 rfl ?_
          refine lv_aload_n C.1 C.2.1 dX10_isGood_363 rfl (lv_at hl 0 rfl) ?_
          refine r_get C hK hP kw_X10 (ci := 8) rfl 0 8 (by decide) kf_X10_29 rfl rfl dX10_isGood_364 ?_
          refine r_iconst 1 C dX10_isGood_367 rfl ?_
          refine r_aldN C hK hP 6 rfl ⟨by omega, by omega⟩ dX10_isGood_368 ?_
          refine r_top (v' := nV (vnb vv)) (by rw [hDR.2.2.2.1]) ?_
          refine r_addN C dX10_isGood_369 ?_
          refine lv_aload_n C.1 C.2.1 dX10_isGood_370 rfl (lv_at hl 0 rfl) ?_
          refine r_get C hK hP kw_X10 (ci := 8) rfl 0 20 (by decide) kf_X10_54 rfl rfl dX10_isGood_371 ?_
          refine r_iconst 0 C dX10_isGood_374 rfl ?_
          refine r_aldZ C hK hP 8 rfl ⟨by omega, by omega⟩ dX10_isGood_375 ?_
          refine r_top (v' := nV (nu 0)) (congrArg Value.int (congrArg iI (hnu 0 (by omega)))) ?_
          have hf_8 := hnb 0 (by omega)
          refine r_astN C hK hP hD hS 7 rfl ⟨by omega, by omega⟩ dX10_isGood_376 (fun H locs hP hD hS => ?_)
          have hP : va_P g.1 vwCl [(mo0, .inr (8, [nV mL, .ref mA1, nV mAt, .ref mA3, .ref mA4, .ref mA5, .ref mA6, .ref mA7, .ref mA8, .ref mA9, .ref mA10, .ref mA11, .ref mA12, nV kz, nV dn, .ref mA15, .ref mA16, .ref mA17, mV mAb, mV mBe, .ref mA20, zV mCl])), (mA3, cN g 4 mtd), (mA4, cN g 2 mws), (mA5, cN g 32 mwd), (mA6, cN g 2 mcs), (mA7, cN g 20 mca), (mA8, cN g 2 mbs), (mA9, cN g 10 (upN mba (5 + (vnb vv)) (nu 0))), (mA20, cZ g 4 mgt)] H := hP
          have hD : va_D A [(mo0, .inr (8, [nV mL, .ref mA1, nV mAt, .ref mA3, .ref mA4, .ref mA5, .ref mA6, .ref mA7, .ref mA8, .ref mA9, .ref mA10, .ref mA11, .ref mA12, nV kz, nV dn, .ref mA15, .ref mA16, .ref mA17, mV mAb, mV mBe, .ref mA20, zV mCl])), (mA3, cN g 4 mtd), (mA4, cN g 2 mws), (mA5, cN g 32 mwd), (mA6, cN g 2 mcs), (mA7, cN g 20 mca), (mA8, cN g 2 mbs), (mA9, cN g 10 (upN mba (5 + (vnb vv)) (nu 0))), (mA20, cZ g 4 mgt)] := hD
          refine lv_aload_n C.1 C.2.1 dX10_isGood_377 rfl (lv_at hl 0 rfl) ?_
          refine r_get C hK hP kw_X10 (ci := 8) rfl 0 8 (by decide) kf_X10_29 rfl rfl dX10_isGood_378 ?_
          refine r_iconst 1 C dX10_isGood_381 rfl ?_
          refine lv_dup2_11 C.1 C.2.1 dX10_isGood_382 rfl rfl ?_
          refine r_aldN C hK hP 6 rfl ⟨by omega, by omega⟩ dX10_isGood_383 ?_
          refine r_top (v' := nV (vnb vv)) (by rw [hDR.2.2.2.1]) ?_
          refine r_iconst 1 C dX10_isGood_384 rfl ?_
          refine r_addN C dX10_isGood_385 ?_
          refine r_astN C hK hP hD hS 6 rfl ⟨by omega, by omega⟩ dX10_isGood_386 (fun H locs hP hD hS => ?_)
          have hP : va_P g.1 vwCl [(mo0, .inr (8, [nV mL, .ref mA1, nV mAt, .ref mA3, .ref mA4, .ref mA5, .ref mA6, .ref mA7, .ref mA8, .ref mA9, .ref mA10, .ref mA11, .ref mA12, nV kz, nV dn, .ref mA15, .ref mA16, .ref mA17, mV mAb, mV mBe, .ref mA20, zV mCl])), (mA3, cN g 4 mtd), (mA4, cN g 2 mws), (mA5, cN g 32 mwd), (mA6, cN g 2 mcs), (mA7, cN g 20 mca), (mA8, cN g 2 (upN mbs 1 ((vnb vv) + 1))), (mA9, cN g 10 (upN mba (5 + (vnb vv)) (nu 0))), (mA20, cZ g 4 mgt)] H := hP
          have hD : va_D A [(mo0, .inr (8, [nV mL, .ref mA1, nV mAt, .ref mA3, .ref mA4, .ref mA5, .ref mA6, .ref mA7, .ref mA8, .ref mA9, .ref mA10, .ref mA11, .ref mA12, nV kz, nV dn, .ref mA15, .ref mA16, .ref mA17, mV mAb, mV mBe, .ref mA20, zV mCl])), (mA3, cN g 4 mtd), (mA4, cN g 2 mws), (mA5, cN g 32 mwd), (mA6, cN g 2 mcs), (mA7, cN g 20 mca), (mA8, cN g 2 (upN mbs 1 ((vnb vv) + 1))), (mA9, cN g 10 (upN mba (5 + (vnb vv)) (nu 0))), (mA20, cZ g 4 mgt)] := hD
          refine r_iconst 1 C dX10_isGood_387 rfl ?_
          exact ret ((mtd, mws, mwd, mcs, mca, upN mbs 1 ((vnb vv) + 1), upN mba (5 + (vnb vv)) (nu 0))) dX10_isGood_388 (by decide) hS hP (by have hyl : ab (vnb vv) (nu 0) = true := decide_eq_true ⟨by omega, by omega⟩; exact ⟨bI_1 (by rw [gd_k (by omega)]; exact hyl), fun q => by rw [gd_k (by omega)]; exact DR_K hDR hyl, LK_K⟩)
        refine r_iconst 0 C dX10_isGood_356 rfl ?_
        exact ret ((mtd, mws, mwd, mcs, mca, mbs, mba)) dX10_isGood_357 (by decide) hS hP (⟨bI_z (by rw [gd_k (by omega)]; exact (fun q => by have := of_decide_eq_true q; omega)), fun q => by rw [gd_k (by omega)] at q; exact absurd q ((fun q => by have := of_decide_eq_true q; omega)), LK_r⟩)
      refine lv_aload_n C.1 C.2.1 dX10_isGood_245 rfl (lv_at hl 0 rfl) ?_
      refine r_iconst 0 C dX10_isGood_246 rfl ?_
      refine r_iconst 0 C dX10_isGood_247 rfl ?_
      refine r_bipush 9 C dX10_isGood_248 (by decide) ?_
      refine ro_callV (As := [nV 0, nV 0, nV 9]) (rest := []) C hK (c_X10_isIn l g mo0 mA1 mA3 mA4 mA5 mA6 mA7 mA8 mA9 mA10 mA11 mA12 mA15 mA16 mA17 mA20 mL mAt kz dn mAb mBe mCl mgt 0 0 9 (nu 0) (by omega) (by first | assumption | omega) (by first | assumption | omega) (hnb 0 (by omega)) (hnu 0 (by omega))) (hP.sub (ws' := [(mo0, .inr (8, [nV mL, .ref mA1, nV mAt, .ref mA3, .ref mA4, .ref mA5, .ref mA6, .ref mA7, .ref mA8, .ref mA9, .ref mA10, .ref mA11, .ref mA12, nV kz, nV dn, .ref mA15, .ref mA16, .ref mA17, mV mAb, mV mBe, .ref mA20, zV mCl])), (mA20, cZ g 4 mgt)]) [0, 8] rfl) (ci := 8) (q0 := 0) rfl rfl kc_X10_isIn kl_X10_94 kn_X10 ki_X10_isIn ke_X10_isIn nk_X10_isIn (rm_lt (by decide) (by decide)) hl rfl (Nat.le_of_ble_eq_true rfl) dX10_isGood_250 (fun r_9 hr_10 => ?_)
      subst hr_10
      refine r_beq 277 C dX10_isGood_253 rfl (fun h_11 => ?_) (fun h_11 => ?_)
      · skip
        refine r_iconst 0 C dX10_isGood_277 rfl ?_
        exact ret ((mtd, mws, mwd, mcs, mca, mbs, mba)) dX10_isGood_278 (by decide) hS hP (⟨bI_z (by rw [gd_c (by omega)]; exact (fun q => by have := of_decide_eq_true q; omega)), fun q => by rw [gd_c (by omega)] at q; exact absurd q ((fun q => by have := of_decide_eq_true q; omega)), LK_r⟩)
      refine lv_aload_n C.1 C.2.1 dX10_isGood_256 rfl (lv_at hl 0 rfl) ?_
      refine r_iconst 1 C dX10_isGood_257 rfl ?_
      refine r_iconst 1 C dX10_isGood_258 rfl ?_
      refine r_bipush 6 C dX10_isGood_259 (by decide) ?_
      refine ro_callV (As := [nV 1, nV 1, nV 6]) (rest := []) C hK (c_X10_isIn l g mo0 mA1 mA3 mA4 mA5 mA6 mA7 mA8 mA9 mA10 mA11 mA12 mA15 mA16 mA17 mA20 mL mAt kz dn mAb mBe mCl mgt 1 1 6 (nu 1) (by omega) (by first | assumption | omega) (by first | assumption | omega) (hnb 1 (by omega)) (hnu 1 (by omega))) (hP.sub (ws' := [(mo0, .inr (8, [nV mL, .ref mA1, nV mAt, .ref mA3, .ref mA4, .ref mA5, .ref mA6, .ref mA7, .ref mA8, .ref mA9, .ref mA10, .ref mA11, .ref mA12, nV kz, nV dn, .ref mA15, .ref mA16, .ref mA17, mV mAb, mV mBe, .ref mA20, zV mCl])), (mA20, cZ g 4 mgt)]) [0, 8] rfl) (ci := 8) (q0 := 0) rfl rfl kc_X10_isIn kl_X10_94 kn_X10 ki_X10_isIn ke_X10_isIn nk_X10_isIn (rm_lt (by decide) (by decide)) hl rfl (Nat.le_of_ble_eq_true rfl) dX10_isGood_261 (fun r_12 hr_13 => ?_)
      subst hr_13
      refine r_beq 277 C dX10_isGood_264 rfl (fun h_14 => ?_) (fun h_14 => ?_)
      · skip
        refine r_iconst 0 C dX10_isGood_277 rfl ?_
        exact ret ((mtd, mws, mwd, mcs, mca, mbs, mba)) dX10_isGood_278 (by decide) hS hP (⟨bI_z (by rw [gd_c (by omega)]; exact (fun q => by have := of_decide_eq_true q; omega)), fun q => by rw [gd_c (by omega)] at q; exact absurd q ((fun q => by have := of_decide_eq_true q; omega)), LK_r⟩)
      refine lv_aload_n C.1 C.2.1 dX10_isGood_267 rfl (lv_at hl 0 rfl) ?_
      refine r_get C hK hP kw_X10 (ci := 8) rfl 0 6 (by decide) kf_X10_23 rfl rfl dX10_isGood_268 ?_
      refine r_iconst 1 C dX10_isGood_271 rfl ?_
      refine r_aldN C hK hP 4 rfl ⟨by omega, by omega⟩ dX10_isGood_272 ?_
      refine r_top (v' := nV (vnc vv)) (by rw [hDR.2.2.1.1]) ?_
      refine r_iconst 5 C dX10_isGood_273 rfl ?_
      refine r_cne 279 C dX10_isGood_274 rfl ⟨rgN (by omega), rgN (by decide)⟩ (fun h_15 => ?_) (fun h_15 => ?_)
      · skip
        refine lv_aload_n C.1 C.2.1 dX10_isGood_279 rfl (lv_at hl 0 rfl) ?_
        refine r_get C hK hP kw_X10 (ci := 8) rfl 0 7 (by decide) kf_X10_26 rfl rfl dX10_isGood_280 ?_
        refine r_bipush 10 C dX10_isGood_283 (by decide) ?_
        refine r_iconst 2 C dX10_isGood_285 rfl ?_
        refine lv_aload_n C.1 C.2.1 dX10_isGood_286 rfl (lv_at hl 0 rfl) ?_
        refine r_get C hK hP kw_X10 (ci := 8) rfl 0 6 (by decide) kf_X10_23 rfl rfl dX10_isGood_287 ?_
        refine r_iconst 1 C dX10_isGood_290 rfl ?_
        refine r_aldN C hK hP 4 rfl ⟨by omega, by omega⟩ dX10_isGood_291 ?_
        refine r_top (v' := nV (vnc vv)) (by rw [hDR.2.2.1.1]) ?_
        refine r_mulN C dX10_isGood_292 ?_
        refine r_addN C dX10_isGood_293 ?_
        refine lv_aload_n C.1 C.2.1 dX10_isGood_294 rfl (lv_at hl 0 rfl) ?_
        refine r_get C hK hP kw_X10 (ci := 8) rfl 0 20 (by decide) kf_X10_54 rfl rfl dX10_isGood_295 ?_
        refine r_iconst 0 C dX10_isGood_298 rfl ?_
        refine r_aldZ C hK hP 8 rfl ⟨by omega, by omega⟩ dX10_isGood_299 ?_
        refine r_top (v' := nV (nu 0)) (congrArg Value.int (congrArg iI (hnu 0 (by omega)))) ?_
        have hf_16 := hnb 0 (by omega)
        refine r_astN C hK hP hD hS 5 rfl ⟨by omega, by omega⟩ dX10_isGood_300 (fun H locs hP hD hS => ?_)
        have hP : va_P g.1 vwCl [(mo0, .inr (8, [nV mL, .ref mA1, nV mAt, .ref mA3, .ref mA4, .ref mA5, .ref mA6, .ref mA7, .ref mA8, .ref mA9, .ref mA10, .ref mA11, .ref mA12, nV kz, nV dn, .ref mA15, .ref mA16, .ref mA17, mV mAb, mV mBe, .ref mA20, zV mCl])), (mA3, cN g 4 mtd), (mA4, cN g 2 mws), (mA5, cN g 32 mwd), (mA6, cN g 2 mcs), (mA7, cN g 20 (upN mca (10 + (2 * (vnc vv))) (nu 0))), (mA8, cN g 2 mbs), (mA9, cN g 10 mba), (mA20, cZ g 4 mgt)] H := hP
        have hD : va_D A [(mo0, .inr (8, [nV mL, .ref mA1, nV mAt, .ref mA3, .ref mA4, .ref mA5, .ref mA6, .ref mA7, .ref mA8, .ref mA9, .ref mA10, .ref mA11, .ref mA12, nV kz, nV dn, .ref mA15, .ref mA16, .ref mA17, mV mAb, mV mBe, .ref mA20, zV mCl])), (mA3, cN g 4 mtd), (mA4, cN g 2 mws), (mA5, cN g 32 mwd), (mA6, cN g 2 mcs), (mA7, cN g 20 (upN mca (10 + (2 * (vnc vv))) (nu 0))), (mA8, cN g 2 mbs), (mA9, cN g 10 mba), (mA20, cZ g 4 mgt)] := hD
        refine lv_aload_n C.1 C.2.1 dX10_isGood_301 rfl (lv_at hl 0 rfl) ?_
        refine r_get C hK hP kw_X10 (ci := 8) rfl 0 7 (by decide) kf_X10_26 rfl rfl dX10_isGood_302 ?_
        refine r_bipush 11 C dX10_isGood_305 (by decide) ?_
        refine r_iconst 2 C dX10_isGood_307 rfl ?_
        refine lv_aload_n C.1 C.2.1 dX10_isGood_308 rfl (lv_at hl 0 rfl) ?_
        refine r_get C hK hP kw_X10 (ci := 8) rfl 0 6 (by decide) kf_X10_23 rfl rfl dX10_isGood_309 ?_
        refine r_iconst 1 C dX10_isGood_312 rfl ?_
        refine r_aldN C hK hP 4 rfl ⟨by omega, by omega⟩ dX10_isGood_313 ?_
        refine r_top (v' := nV (vnc vv)) (by rw [hDR.2.2.1.1]) ?_
        refine r_mulN C dX10_isGood_314 ?_
        refine r_addN C dX10_isGood_315 ?_
        refine lv_aload_n C.1 C.2.1 dX10_isGood_316 rfl (lv_at hl 0 rfl) ?_
        refine r_get C hK hP kw_X10 (ci := 8) rfl 0 20 (by decide) kf_X10_54 rfl rfl dX10_isGood_317 ?_
        refine r_iconst 1 C dX10_isGood_320 rfl ?_
        refine r_aldZ C hK hP 8 rfl ⟨by omega, by omega⟩ dX10_isGood_321 ?_
        refine r_top (v' := nV (nu 1)) (congrArg Value.int (congrArg iI (hnu 1 (by omega)))) ?_
        have hf_17 := hnb 1 (by omega)
        refine r_astN C hK hP hD hS 5 rfl ⟨by omega, by omega⟩ dX10_isGood_322 (fun H locs hP hD hS => ?_)
        have hP : va_P g.1 vwCl [(mo0, .inr (8, [nV mL, .ref mA1, nV mAt, .ref mA3, .ref mA4, .ref mA5, .ref mA6, .ref mA7, .ref mA8, .ref mA9, .ref mA10, .ref mA11, .ref mA12, nV kz, nV dn, .ref mA15, .ref mA16, .ref mA17, mV mAb, mV mBe, .ref mA20, zV mCl])), (mA3, cN g 4 mtd), (mA4, cN g 2 mws), (mA5, cN g 32 mwd), (mA6, cN g 2 mcs), (mA7, cN g 20 (upN (upN mca (10 + (2 * (vnc vv))) (nu 0)) (11 + (2 * (vnc vv))) (nu 1))), (mA8, cN g 2 mbs), (mA9, cN g 10 mba), (mA20, cZ g 4 mgt)] H := hP
        have hD : va_D A [(mo0, .inr (8, [nV mL, .ref mA1, nV mAt, .ref mA3, .ref mA4, .ref mA5, .ref mA6, .ref mA7, .ref mA8, .ref mA9, .ref mA10, .ref mA11, .ref mA12, nV kz, nV dn, .ref mA15, .ref mA16, .ref mA17, mV mAb, mV mBe, .ref mA20, zV mCl])), (mA3, cN g 4 mtd), (mA4, cN g 2 mws), (mA5, cN g 32 mwd), (mA6, cN g 2 mcs), (mA7, cN g 20 (upN (upN mca (10 + (2 * (vnc vv))) (nu 0)) (11 + (2 * (vnc vv))) (nu 1))), (mA8, cN g 2 mbs), (mA9, cN g 10 mba), (mA20, cZ g 4 mgt)] := hD
        refine lv_aload_n C.1 C.2.1 dX10_isGood_323 rfl (lv_at hl 0 rfl) ?_
        refine r_get C hK hP kw_X10 (ci := 8) rfl 0 6 (by decide) kf_X10_23 rfl rfl dX10_isGood_324 ?_
        refine r_iconst 1 C dX10_isGood_327 rfl ?_
        refine lv_dup2_11 C.1 C.2.1 dX10_isGood_328 rfl rfl ?_
        refine r_aldN C hK hP 4 rfl ⟨by omega, by omega⟩ dX10_isGood_329 ?_
        refine r_top (v' := nV (vnc vv)) (by rw [hDR.2.2.1.1]) ?_
        refine r_iconst 1 C dX10_isGood_330 rfl ?_
        refine r_addN C dX10_isGood_331 ?_
        refine r_astN C hK hP hD hS 4 rfl ⟨by omega, by omega⟩ dX10_isGood_332 (fun H locs hP hD hS => ?_)
        have hP : va_P g.1 vwCl [(mo0, .inr (8, [nV mL, .ref mA1, nV mAt, .ref mA3, .ref mA4, .ref mA5, .ref mA6, .ref mA7, .ref mA8, .ref mA9, .ref mA10, .ref mA11, .ref mA12, nV kz, nV dn, .ref mA15, .ref mA16, .ref mA17, mV mAb, mV mBe, .ref mA20, zV mCl])), (mA3, cN g 4 mtd), (mA4, cN g 2 mws), (mA5, cN g 32 mwd), (mA6, cN g 2 (upN mcs 1 ((vnc vv) + 1))), (mA7, cN g 20 (upN (upN mca (10 + (2 * (vnc vv))) (nu 0)) (11 + (2 * (vnc vv))) (nu 1))), (mA8, cN g 2 mbs), (mA9, cN g 10 mba), (mA20, cZ g 4 mgt)] H := hP
        have hD : va_D A [(mo0, .inr (8, [nV mL, .ref mA1, nV mAt, .ref mA3, .ref mA4, .ref mA5, .ref mA6, .ref mA7, .ref mA8, .ref mA9, .ref mA10, .ref mA11, .ref mA12, nV kz, nV dn, .ref mA15, .ref mA16, .ref mA17, mV mAb, mV mBe, .ref mA20, zV mCl])), (mA3, cN g 4 mtd), (mA4, cN g 2 mws), (mA5, cN g 32 mwd), (mA6, cN g 2 (upN mcs 1 ((vnc vv) + 1))), (mA7, cN g 20 (upN (upN mca (10 + (2 * (vnc vv))) (nu 0)) (11 + (2 * (vnc vv))) (nu 1))), (mA8, cN g 2 mbs), (mA9, cN g 10 mba), (mA20, cZ g 4 mgt)] := hD
        refine r_iconst 1 C dX10_isGood_333 rfl ?_
        exact ret ((mtd, mws, mwd, upN mcs 1 ((vnc vv) + 1), upN (upN mca (10 + (2 * (vnc vv))) (nu 0)) (11 + (2 * (vnc vv))) (nu 1), mbs, mba)) dX10_isGood_334 (by decide) hS hP (by have hyl : ac (vnc vv) (nu 0) (nu 1) = true := decide_eq_true ⟨by omega, ⟨by omega, by omega⟩, by omega⟩; exact ⟨bI_1 (by rw [gd_c (by omega)]; exact hyl), fun q => by rw [gd_c (by omega)]; exact DR_C hDR hyl, LK_C⟩)
      refine r_iconst 0 C dX10_isGood_277 rfl ?_
      exact ret ((mtd, mws, mwd, mcs, mca, mbs, mba)) dX10_isGood_278 (by decide) hS hP (⟨bI_z (by rw [gd_c (by omega)]; exact (fun q => by have := of_decide_eq_true q; omega)), fun q => by rw [gd_c (by omega)] at q; exact absurd q ((fun q => by have := of_decide_eq_true q; omega)), LK_r⟩)
    refine lv_aload_n C.1 C.2.1 dX10_isGood_187 rfl (lv_at hl 0 rfl) ?_
    refine r_get C hK hP kw_X10 (ci := 8) rfl 0 3 (by decide) kf_X10_13 rfl rfl dX10_isGood_188 ?_
    refine r_iconst 2 C dX10_isGood_191 rfl ?_
    refine lv_aload_n C.1 C.2.1 dX10_isGood_192 rfl (lv_at hl 0 rfl) ?_
    refine r_get C hK hP kw_X10 (ci := 8) rfl 0 20 (by decide) kf_X10_54 rfl rfl dX10_isGood_193 ?_
    refine r_iconst 0 C dX10_isGood_196 rfl ?_
    refine r_aldZ C hK hP 8 rfl ⟨by omega, by omega⟩ dX10_isGood_197 ?_
    refine r_top (v' := nV (nu 0)) (congrArg Value.int (congrArg iI (hnu 0 (by omega)))) ?_
    have hf_18 := hnb 0 (by omega)
    refine r_astN C hK hP hD hS 1 rfl ⟨by omega, by omega⟩ dX10_isGood_198 (fun H locs hP hD hS => ?_)
    have hP : va_P g.1 vwCl [(mo0, .inr (8, [nV mL, .ref mA1, nV mAt, .ref mA3, .ref mA4, .ref mA5, .ref mA6, .ref mA7, .ref mA8, .ref mA9, .ref mA10, .ref mA11, .ref mA12, nV kz, nV dn, .ref mA15, .ref mA16, .ref mA17, mV mAb, mV mBe, .ref mA20, zV mCl])), (mA3, cN g 4 (upN mtd 2 (nu 0))), (mA4, cN g 2 mws), (mA5, cN g 32 mwd), (mA6, cN g 2 mcs), (mA7, cN g 20 mca), (mA8, cN g 2 mbs), (mA9, cN g 10 mba), (mA20, cZ g 4 mgt)] H := hP
    have hD : va_D A [(mo0, .inr (8, [nV mL, .ref mA1, nV mAt, .ref mA3, .ref mA4, .ref mA5, .ref mA6, .ref mA7, .ref mA8, .ref mA9, .ref mA10, .ref mA11, .ref mA12, nV kz, nV dn, .ref mA15, .ref mA16, .ref mA17, mV mAb, mV mBe, .ref mA20, zV mCl])), (mA3, cN g 4 (upN mtd 2 (nu 0))), (mA4, cN g 2 mws), (mA5, cN g 32 mwd), (mA6, cN g 2 mcs), (mA7, cN g 20 mca), (mA8, cN g 2 mbs), (mA9, cN g 10 mba), (mA20, cZ g 4 mgt)] := hD
    refine lv_aload_n C.1 C.2.1 dX10_isGood_199 rfl (lv_at hl 0 rfl) ?_
    refine r_get C hK hP kw_X10 (ci := 8) rfl 0 3 (by decide) kf_X10_13 rfl rfl dX10_isGood_200 ?_
    refine r_iconst 3 C dX10_isGood_203 rfl ?_
    refine lv_aload_n C.1 C.2.1 dX10_isGood_204 rfl (lv_at hl 0 rfl) ?_
    refine r_get C hK hP kw_X10 (ci := 8) rfl 0 20 (by decide) kf_X10_54 rfl rfl dX10_isGood_205 ?_
    refine r_iconst 1 C dX10_isGood_208 rfl ?_
    refine r_aldZ C hK hP 8 rfl ⟨by omega, by omega⟩ dX10_isGood_209 ?_
    refine r_top (v' := nV (nu 1)) (congrArg Value.int (congrArg iI (hnu 1 (by omega)))) ?_
    have hf_19 := hnb 1 (by omega)
    refine r_astN C hK hP hD hS 1 rfl ⟨by omega, by omega⟩ dX10_isGood_210 (fun H locs hP hD hS => ?_)
    have hP : va_P g.1 vwCl [(mo0, .inr (8, [nV mL, .ref mA1, nV mAt, .ref mA3, .ref mA4, .ref mA5, .ref mA6, .ref mA7, .ref mA8, .ref mA9, .ref mA10, .ref mA11, .ref mA12, nV kz, nV dn, .ref mA15, .ref mA16, .ref mA17, mV mAb, mV mBe, .ref mA20, zV mCl])), (mA3, cN g 4 (upN (upN mtd 2 (nu 0)) 3 (nu 1))), (mA4, cN g 2 mws), (mA5, cN g 32 mwd), (mA6, cN g 2 mcs), (mA7, cN g 20 mca), (mA8, cN g 2 mbs), (mA9, cN g 10 mba), (mA20, cZ g 4 mgt)] H := hP
    have hD : va_D A [(mo0, .inr (8, [nV mL, .ref mA1, nV mAt, .ref mA3, .ref mA4, .ref mA5, .ref mA6, .ref mA7, .ref mA8, .ref mA9, .ref mA10, .ref mA11, .ref mA12, nV kz, nV dn, .ref mA15, .ref mA16, .ref mA17, mV mAb, mV mBe, .ref mA20, zV mCl])), (mA3, cN g 4 (upN (upN mtd 2 (nu 0)) 3 (nu 1))), (mA4, cN g 2 mws), (mA5, cN g 32 mwd), (mA6, cN g 2 mcs), (mA7, cN g 20 mca), (mA8, cN g 2 mbs), (mA9, cN g 10 mba), (mA20, cZ g 4 mgt)] := hD
    refine lv_aload_n C.1 C.2.1 dX10_isGood_211 rfl (lv_at hl 0 rfl) ?_
    refine r_iconst 0 C dX10_isGood_212 rfl ?_
    refine r_iconst 1 C dX10_isGood_213 rfl ?_
    refine r_bipush 9 C dX10_isGood_214 (by decide) ?_
    refine ro_callV (As := [nV 0, nV 1, nV 9]) (rest := []) C hK (c_X10_isIn l g mo0 mA1 mA3 mA4 mA5 mA6 mA7 mA8 mA9 mA10 mA11 mA12 mA15 mA16 mA17 mA20 mL mAt kz dn mAb mBe mCl mgt 0 1 9 (nu 0) (by omega) (by first | assumption | omega) (by first | assumption | omega) (hnb 0 (by omega)) (hnu 0 (by omega))) (hP.sub (ws' := [(mo0, .inr (8, [nV mL, .ref mA1, nV mAt, .ref mA3, .ref mA4, .ref mA5, .ref mA6, .ref mA7, .ref mA8, .ref mA9, .ref mA10, .ref mA11, .ref mA12, nV kz, nV dn, .ref mA15, .ref mA16, .ref mA17, mV mAb, mV mBe, .ref mA20, zV mCl])), (mA20, cZ g 4 mgt)]) [0, 8] rfl) (ci := 8) (q0 := 0) rfl rfl kc_X10_isIn kl_X10_94 kn_X10 ki_X10_isIn ke_X10_isIn nk_X10_isIn (rm_lt (by decide) (by decide)) hl rfl (Nat.le_of_ble_eq_true rfl) dX10_isGood_216 (fun r_20 hr_21 => ?_)
    subst hr_21
    refine r_beq 237 C dX10_isGood_219 rfl (fun h_22 => ?_) (fun h_22 => ?_)
    · skip
      refine r_iconst 0 C dX10_isGood_237 rfl ?_
      exact ret ((upN (upN mtd 2 (nu 0)) 3 (nu 1), mws, mwd, mcs, mca, mbs, mba)) dX10_isGood_238 (by decide) hS hP (⟨bI_z (by rw [gd_b (by omega)]; exact (fun q => by have := of_decide_eq_true q; omega)), fun q => by rw [gd_b (by omega)] at q; exact absurd q ((fun q => by have := of_decide_eq_true q; omega)), LK_B⟩)
    refine lv_aload_n C.1 C.2.1 dX10_isGood_222 rfl (lv_at hl 0 rfl) ?_
    refine r_iconst 1 C dX10_isGood_223 rfl ?_
    refine r_iconst 1 C dX10_isGood_224 rfl ?_
    refine r_bipush 9 C dX10_isGood_225 (by decide) ?_
    refine ro_callV (As := [nV 1, nV 1, nV 9]) (rest := []) C hK (c_X10_isIn l g mo0 mA1 mA3 mA4 mA5 mA6 mA7 mA8 mA9 mA10 mA11 mA12 mA15 mA16 mA17 mA20 mL mAt kz dn mAb mBe mCl mgt 1 1 9 (nu 1) (by omega) (by first | assumption | omega) (by first | assumption | omega) (hnb 1 (by omega)) (hnu 1 (by omega))) (hP.sub (ws' := [(mo0, .inr (8, [nV mL, .ref mA1, nV mAt, .ref mA3, .ref mA4, .ref mA5, .ref mA6, .ref mA7, .ref mA8, .ref mA9, .ref mA10, .ref mA11, .ref mA12, nV kz, nV dn, .ref mA15, .ref mA16, .ref mA17, mV mAb, mV mBe, .ref mA20, zV mCl])), (mA20, cZ g 4 mgt)]) [0, 8] rfl) (ci := 8) (q0 := 0) rfl rfl kc_X10_isIn kl_X10_94 kn_X10 ki_X10_isIn ke_X10_isIn nk_X10_isIn (rm_lt (by decide) (by decide)) hl rfl (Nat.le_of_ble_eq_true rfl) dX10_isGood_227 (fun r_23 hr_24 => ?_)
    subst hr_24
    refine r_beq 237 C dX10_isGood_230 rfl (fun h_25 => ?_) (fun h_25 => ?_)
    · skip
      refine r_iconst 0 C dX10_isGood_237 rfl ?_
      exact ret ((upN (upN mtd 2 (nu 0)) 3 (nu 1), mws, mwd, mcs, mca, mbs, mba)) dX10_isGood_238 (by decide) hS hP (⟨bI_z (by rw [gd_b (by omega)]; exact (fun q => by have := of_decide_eq_true q; omega)), fun q => by rw [gd_b (by omega)] at q; exact absurd q ((fun q => by have := of_decide_eq_true q; omega)), LK_B⟩)
    refine r_iconst 1 C dX10_isGood_233 rfl ?_
    refine r_goto 238 C dX10_isGood_234 rfl ?_
    exact ret ((upN (upN mtd 2 (nu 0)) 3 (nu 1), mws, mwd, mcs, mca, mbs, mba)) dX10_isGood_238 (by decide) hS hP (by have hyl : al (nu 0) (nu 1) = true := decide_eq_true ⟨⟨by omega, by omega⟩, ⟨by omega, by omega⟩⟩; exact ⟨bI_1 (by rw [gd_b (by omega)]; exact hyl), fun q => by rw [gd_b (by omega)]; exact DR_B hDR hyl, LK_B⟩)
  refine lv_aload_n C.1 C.2.1 dX10_isGood_6 rfl (lv_at hl 0 rfl) ?_
  refine r_get C hK hP kw_X10 (ci := 8) rfl 0 20 (by decide) kf_X10_54 rfl rfl dX10_isGood_7 ?_
  refine r_iconst 0 C dX10_isGood_10 rfl ?_
  refine r_aldZ C hK hP 8 rfl ⟨by omega, by omega⟩ dX10_isGood_11 ?_
  refine r_top (v' := nV (nu 0)) (congrArg Value.int (congrArg iI (hnu 0 (by omega)))) ?_
  have hf_26 := hnb 0 (by omega)
  refine r_bipush 6 C dX10_isGood_12 (by decide) ?_
  refine lv_aload_n C.1 C.2.1 dX10_isGood_14 rfl (lv_at hl 0 rfl) ?_
  refine r_get C hK hP kw_X10 (ci := 8) rfl 0 20 (by decide) kf_X10_54 rfl rfl dX10_isGood_15 ?_
  refine r_iconst 1 C dX10_isGood_18 rfl ?_
  refine r_aldZ C hK hP 8 rfl ⟨by omega, by omega⟩ dX10_isGood_19 ?_
  refine r_top (v' := nV (nu 1)) (congrArg Value.int (congrArg iI (hnu 1 (by omega)))) ?_
  have hf_27 := hnb 1 (by omega)
  refine r_mulN C dX10_isGood_20 ?_
  refine r_addN C dX10_isGood_21 ?_
  refine r_bipush 24 C dX10_isGood_22 (by decide) ?_
  refine lv_aload_n C.1 C.2.1 dX10_isGood_24 rfl (lv_at hl 0 rfl) ?_
  refine r_get C hK hP kw_X10 (ci := 8) rfl 0 20 (by decide) kf_X10_54 rfl rfl dX10_isGood_25 ?_
  refine r_iconst 2 C dX10_isGood_28 rfl ?_
  refine r_aldZ C hK hP 8 rfl ⟨by omega, by omega⟩ dX10_isGood_29 ?_
  refine r_top (v' := nV (nu 2)) (congrArg Value.int (congrArg iI (hnu 2 (by omega)))) ?_
  have hf_28 := hnb 2 (by omega)
  refine r_mulN C dX10_isGood_30 ?_
  refine r_addN C dX10_isGood_31 ?_
  refine lv_istore_n (lv' := [(2, nV (((nu 0) + (6 * (nu 1))) + (24 * (nu 2)))), (0, .ref mo0), (1, zV ll)]) C.1 C.2.1 dX10_isGood_32 rfl hl (by decide) rfl (fun ls hl => ?_)
  refine lv_aload_n C.1 C.2.1 dX10_isGood_33 rfl (lv_at hl 1 rfl) ?_
  refine r_iconst 0 C dX10_isGood_34 rfl ?_
  refine r_iconst 0 C dX10_isGood_35 rfl ?_
  refine r_iconst 5 C dX10_isGood_36 rfl ?_
  refine ro_callV (As := [nV 0, nV 0, nV 5]) (rest := []) C hK (c_X10_isIn l g mo0 mA1 mA3 mA4 mA5 mA6 mA7 mA8 mA9 mA10 mA11 mA12 mA15 mA16 mA17 mA20 mL mAt kz dn mAb mBe mCl mgt 0 0 5 (nu 0) (by omega) (by first | assumption | omega) (by first | assumption | omega) (hnb 0 (by omega)) (hnu 0 (by omega))) (hP.sub (ws' := [(mo0, .inr (8, [nV mL, .ref mA1, nV mAt, .ref mA3, .ref mA4, .ref mA5, .ref mA6, .ref mA7, .ref mA8, .ref mA9, .ref mA10, .ref mA11, .ref mA12, nV kz, nV dn, .ref mA15, .ref mA16, .ref mA17, mV mAb, mV mBe, .ref mA20, zV mCl])), (mA20, cZ g 4 mgt)]) [0, 8] rfl) (ci := 8) (q0 := 0) rfl rfl kc_X10_isIn kl_X10_94 kn_X10 ki_X10_isIn ke_X10_isIn nk_X10_isIn (rm_lt (by decide) (by decide)) hl rfl (Nat.le_of_ble_eq_true rfl) dX10_isGood_37 (fun r_29 hr_30 => ?_)
  subst hr_30
  refine r_beq 78 C dX10_isGood_40 rfl (fun h_31 => ?_) (fun h_31 => ?_)
  · skip
    refine r_iconst 0 C dX10_isGood_78 rfl ?_
    refine lv_istore_n (lv' := [(3, nV 0), (2, nV (((nu 0) + (6 * (nu 1))) + (24 * (nu 2)))), (0, .ref mo0), (1, zV ll)]) C.1 C.2.1 dX10_isGood_79 rfl hl (by decide) rfl (fun ls hl => ?_)
    refine r_iconst 0 C dX10_isGood_80 rfl ?_
    refine lv_istore (lv' := [(4, nV 0), (3, nV 0), (2, nV (((nu 0) + (6 * (nu 1))) + (24 * (nu 2)))), (0, .ref mo0), (1, zV ll)]) C.1 C.2.1 dX10_isGood_81 hl (by decide) rfl (fun ls hl => ?_)
    have L83 : ∀ (n_83 : Nat) (i : Nat) (zz : Nat) (H : Heap) (locs : List Loc) (ls : Array Slot) (hi : i ≤ vk vv) (hzb : zz ≤ 1) (hz : (zz = 1 ∧ (nu 0 ≤ 5 ∧ nu 1 ≤ 3 ∧ nu 2 ≤ 2 ∧ vk vv < 8) ∧ ∀ j, j < i → vsg vv j ≠ nu 0 + 6 * nu 1 + 24 * nu 2) ∨ (zz = 0 ∧ ¬ aw (vsg vv) (vk vv) (nu 0) (nu 1) (nu 2) = true)) (hm : vk vv - i < n_83) (hP : va_P g.1 vwCl [(mo0, .inr (8, [nV mL, .ref mA1, nV mAt, .ref mA3, .ref mA4, .ref mA5, .ref mA6, .ref mA7, .ref mA8, .ref mA9, .ref mA10, .ref mA11, .ref mA12, nV kz, nV dn, .ref mA15, .ref mA16, .ref mA17, mV mAb, mV mBe, .ref mA20, zV mCl])), (mA3, cN g 4 mtd), (mA4, cN g 2 mws), (mA5, cN g 32 mwd), (mA6, cN g 2 mcs), (mA7, cN g 20 mca), (mA8, cN g 2 mbs), (mA9, cN g 10 mba), (mA20, cZ g 4 mgt)] H) (hD : va_D A [(mo0, .inr (8, [nV mL, .ref mA1, nV mAt, .ref mA3, .ref mA4, .ref mA5, .ref mA6, .ref mA7, .ref mA8, .ref mA9, .ref mA10, .ref mA11, .ref mA12, nV kz, nV dn, .ref mA15, .ref mA16, .ref mA17, mV mAb, mV mBe, .ref mA20, zV mCl])), (mA3, cN g 4 mtd), (mA4, cN g 2 mws), (mA5, cN g 32 mwd), (mA6, cN g 2 mcs), (mA7, cN g 20 mca), (mA8, cN g 2 mbs), (mA9, cN g 10 mba), (mA20, cZ g 4 mgt)]) (hS : va_S A s.heap H locs) (hl : lv_has ls 5 [(4, nV i), (3, nV zz), (2, nV (((nu 0) + (6 * (nu 1))) + (24 * (nu 2)))), (0, .ref mo0), (1, zV ll)]), W p l e (rD 3) s m args below meth c H locs 0 0 Q (F0 m 83 ls []) := by
      intro n_83
      induction n_83 with
      | zero => intro i zz H locs ls hi hzb hz hm hP hD hS hl; exact absurd hm (Nat.not_lt_zero _)
      | succ n_83 ih_83 =>
        intro i zz H locs ls hi hzb hz hm hP hD hS hl
        refine lv_iload C.1 C.2.1 dX10_isGood_83 (lv_at hl 0 rfl) ?_
        refine lv_aload_n C.1 C.2.1 dX10_isGood_85 rfl (lv_at hl 3 rfl) ?_
        refine r_get C hK hP kw_X10 (ci := 8) rfl 0 4 (by decide) kf_X10_17 rfl rfl dX10_isGood_86 ?_
        refine r_iconst 1 C dX10_isGood_89 rfl ?_
        refine r_aldN C hK hP 2 rfl ⟨by omega, by omega⟩ dX10_isGood_90 ?_
        refine r_top (v' := nV (vk vv)) (by rw [hDR.2.1.1]) ?_
        refine r_cge 126 C dX10_isGood_91 rfl ⟨rgN (by omega), rgN (by omega)⟩ (fun h_32 => ?_) (fun h_32 => ?_)
        · skip
          refine lv_iload_n C.1 C.2.1 dX10_isGood_126 rfl (lv_at hl 1 rfl) ?_
          refine r_ieq 179 C dX10_isGood_127 rfl (rgN (by omega)) (fun h_33 => ?_) (fun h_33 => ?_)
          · skip
            refine lv_iload_n C.1 C.2.1 dX10_isGood_179 rfl (lv_at hl 1 rfl) ?_
            exact ret ((mtd, mws, mwd, mcs, mca, mbs, mba)) dX10_isGood_180 (nar_01 (by omega)) hS hP (by have hno : ¬ aw (vsg vv) (vk vv) (nu 0) (nu 1) (nu 2) = true := (by rcases hz with q | q; (exfalso; omega); exact q.2); obtain rfl : zz = 0 := (by omega); exact ⟨bI_z (by rw [gd_w (by omega)]; exact hno), fun q => by rw [gd_w (by omega)] at q; exact absurd q (hno), LK_r⟩)
          obtain ⟨hz1, hz2, hz3⟩ : zz = 1 ∧ (nu 0 ≤ 5 ∧ nu 1 ≤ 3 ∧ nu 2 ≤ 2 ∧ vk vv < 8) ∧ ∀ j, j < i → vsg vv j ≠ nu 0 + 6 * nu 1 + 24 * nu 2 := by rcases hz with q | q; exact q; (exfalso; omega)
          have haw0 : aw (vsg vv) (vk vv) (nu 0) (nu 1) (nu 2) = true := aw_of hz2 (fun j hj => hz3 j (by omega))
          refine lv_aload_n C.1 C.2.1 dX10_isGood_130 rfl (lv_at hl 3 rfl) ?_
          refine r_get C hK hP kw_X10 (ci := 8) rfl 0 5 (by decide) kf_X10_20 rfl rfl dX10_isGood_131 ?_
          refine r_bipush 16 C dX10_isGood_134 (by decide) ?_
          refine r_iconst 2 C dX10_isGood_136 rfl ?_
          refine lv_aload_n C.1 C.2.1 dX10_isGood_137 rfl (lv_at hl 3 rfl) ?_
          refine r_get C hK hP kw_X10 (ci := 8) rfl 0 4 (by decide) kf_X10_17 rfl rfl dX10_isGood_138 ?_
          refine r_iconst 1 C dX10_isGood_141 rfl ?_
          refine r_aldN C hK hP 2 rfl ⟨by omega, by omega⟩ dX10_isGood_142 ?_
          refine r_top (v' := nV (vk vv)) (by rw [hDR.2.1.1]) ?_
          refine r_mulN C dX10_isGood_143 ?_
          refine r_addN C dX10_isGood_144 ?_
          refine lv_iload_n C.1 C.2.1 dX10_isGood_145 rfl (lv_at hl 2 rfl) ?_
          refine r_astN C hK hP hD hS 3 rfl ⟨by omega, by omega⟩ dX10_isGood_146 (fun H locs hP hD hS => ?_)
          have hP : va_P g.1 vwCl [(mo0, .inr (8, [nV mL, .ref mA1, nV mAt, .ref mA3, .ref mA4, .ref mA5, .ref mA6, .ref mA7, .ref mA8, .ref mA9, .ref mA10, .ref mA11, .ref mA12, nV kz, nV dn, .ref mA15, .ref mA16, .ref mA17, mV mAb, mV mBe, .ref mA20, zV mCl])), (mA3, cN g 4 mtd), (mA4, cN g 2 mws), (mA5, cN g 32 (upN mwd (16 + (2 * (vk vv))) (((nu 0) + (6 * (nu 1))) + (24 * (nu 2))))), (mA6, cN g 2 mcs), (mA7, cN g 20 mca), (mA8, cN g 2 mbs), (mA9, cN g 10 mba), (mA20, cZ g 4 mgt)] H := hP
          have hD : va_D A [(mo0, .inr (8, [nV mL, .ref mA1, nV mAt, .ref mA3, .ref mA4, .ref mA5, .ref mA6, .ref mA7, .ref mA8, .ref mA9, .ref mA10, .ref mA11, .ref mA12, nV kz, nV dn, .ref mA15, .ref mA16, .ref mA17, mV mAb, mV mBe, .ref mA20, zV mCl])), (mA3, cN g 4 mtd), (mA4, cN g 2 mws), (mA5, cN g 32 (upN mwd (16 + (2 * (vk vv))) (((nu 0) + (6 * (nu 1))) + (24 * (nu 2))))), (mA6, cN g 2 mcs), (mA7, cN g 20 mca), (mA8, cN g 2 mbs), (mA9, cN g 10 mba), (mA20, cZ g 4 mgt)] := hD
          refine lv_aload_n C.1 C.2.1 dX10_isGood_147 rfl (lv_at hl 3 rfl) ?_
          refine r_get C hK hP kw_X10 (ci := 8) rfl 0 5 (by decide) kf_X10_20 rfl rfl dX10_isGood_148 ?_
          refine r_bipush 17 C dX10_isGood_151 (by decide) ?_
          refine r_iconst 2 C dX10_isGood_153 rfl ?_
          refine lv_aload_n C.1 C.2.1 dX10_isGood_154 rfl (lv_at hl 3 rfl) ?_
          refine r_get C hK hP kw_X10 (ci := 8) rfl 0 4 (by decide) kf_X10_17 rfl rfl dX10_isGood_155 ?_
          refine r_iconst 1 C dX10_isGood_158 rfl ?_
          refine r_aldN C hK hP 2 rfl ⟨by omega, by omega⟩ dX10_isGood_159 ?_
          refine r_top (v' := nV (vk vv)) (by rw [hDR.2.1.1]) ?_
          refine r_mulN C dX10_isGood_160 ?_
          refine r_addN C dX10_isGood_161 ?_
          refine lv_aload_n C.1 C.2.1 dX10_isGood_162 rfl (lv_at hl 3 rfl) ?_
          refine r_get C hK hP kw_X10 (ci := 8) rfl 0 20 (by decide) kf_X10_54 rfl rfl dX10_isGood_163 ?_
          refine r_iconst 3 C dX10_isGood_166 rfl ?_
          refine r_aldZ C hK hP 8 rfl ⟨by omega, by omega⟩ dX10_isGood_167 ?_
          refine r_top (v' := nV (nu 3)) (congrArg Value.int (congrArg iI (hnu 3 (by omega)))) ?_
          have hf_34 := hnb 3 (by omega)
          refine r_astN C hK hP hD hS 3 rfl ⟨by omega, by omega⟩ dX10_isGood_168 (fun H locs hP hD hS => ?_)
          have hP : va_P g.1 vwCl [(mo0, .inr (8, [nV mL, .ref mA1, nV mAt, .ref mA3, .ref mA4, .ref mA5, .ref mA6, .ref mA7, .ref mA8, .ref mA9, .ref mA10, .ref mA11, .ref mA12, nV kz, nV dn, .ref mA15, .ref mA16, .ref mA17, mV mAb, mV mBe, .ref mA20, zV mCl])), (mA3, cN g 4 mtd), (mA4, cN g 2 mws), (mA5, cN g 32 (upN (upN mwd (16 + (2 * (vk vv))) (((nu 0) + (6 * (nu 1))) + (24 * (nu 2)))) (17 + (2 * (vk vv))) (nu 3))), (mA6, cN g 2 mcs), (mA7, cN g 20 mca), (mA8, cN g 2 mbs), (mA9, cN g 10 mba), (mA20, cZ g 4 mgt)] H := hP
          have hD : va_D A [(mo0, .inr (8, [nV mL, .ref mA1, nV mAt, .ref mA3, .ref mA4, .ref mA5, .ref mA6, .ref mA7, .ref mA8, .ref mA9, .ref mA10, .ref mA11, .ref mA12, nV kz, nV dn, .ref mA15, .ref mA16, .ref mA17, mV mAb, mV mBe, .ref mA20, zV mCl])), (mA3, cN g 4 mtd), (mA4, cN g 2 mws), (mA5, cN g 32 (upN (upN mwd (16 + (2 * (vk vv))) (((nu 0) + (6 * (nu 1))) + (24 * (nu 2)))) (17 + (2 * (vk vv))) (nu 3))), (mA6, cN g 2 mcs), (mA7, cN g 20 mca), (mA8, cN g 2 mbs), (mA9, cN g 10 mba), (mA20, cZ g 4 mgt)] := hD
          refine lv_aload_n C.1 C.2.1 dX10_isGood_169 rfl (lv_at hl 3 rfl) ?_
          refine r_get C hK hP kw_X10 (ci := 8) rfl 0 4 (by decide) kf_X10_17 rfl rfl dX10_isGood_170 ?_
          refine r_iconst 1 C dX10_isGood_173 rfl ?_
          refine lv_dup2_11 C.1 C.2.1 dX10_isGood_174 rfl rfl ?_
          refine r_aldN C hK hP 2 rfl ⟨by omega, by omega⟩ dX10_isGood_175 ?_
          refine r_top (v' := nV (vk vv)) (by rw [hDR.2.1.1]) ?_
          refine r_iconst 1 C dX10_isGood_176 rfl ?_
          refine r_addN C dX10_isGood_177 ?_
          refine r_astN C hK hP hD hS 2 rfl ⟨by omega, by omega⟩ dX10_isGood_178 (fun H locs hP hD hS => ?_)
          have hP : va_P g.1 vwCl [(mo0, .inr (8, [nV mL, .ref mA1, nV mAt, .ref mA3, .ref mA4, .ref mA5, .ref mA6, .ref mA7, .ref mA8, .ref mA9, .ref mA10, .ref mA11, .ref mA12, nV kz, nV dn, .ref mA15, .ref mA16, .ref mA17, mV mAb, mV mBe, .ref mA20, zV mCl])), (mA3, cN g 4 mtd), (mA4, cN g 2 (upN mws 1 ((vk vv) + 1))), (mA5, cN g 32 (upN (upN mwd (16 + (2 * (vk vv))) (((nu 0) + (6 * (nu 1))) + (24 * (nu 2)))) (17 + (2 * (vk vv))) (nu 3))), (mA6, cN g 2 mcs), (mA7, cN g 20 mca), (mA8, cN g 2 mbs), (mA9, cN g 10 mba), (mA20, cZ g 4 mgt)] H := hP
          have hD : va_D A [(mo0, .inr (8, [nV mL, .ref mA1, nV mAt, .ref mA3, .ref mA4, .ref mA5, .ref mA6, .ref mA7, .ref mA8, .ref mA9, .ref mA10, .ref mA11, .ref mA12, nV kz, nV dn, .ref mA15, .ref mA16, .ref mA17, mV mAb, mV mBe, .ref mA20, zV mCl])), (mA3, cN g 4 mtd), (mA4, cN g 2 (upN mws 1 ((vk vv) + 1))), (mA5, cN g 32 (upN (upN mwd (16 + (2 * (vk vv))) (((nu 0) + (6 * (nu 1))) + (24 * (nu 2)))) (17 + (2 * (vk vv))) (nu 3))), (mA6, cN g 2 mcs), (mA7, cN g 20 mca), (mA8, cN g 2 mbs), (mA9, cN g 10 mba), (mA20, cZ g 4 mgt)] := hD
          refine lv_iload_n C.1 C.2.1 dX10_isGood_179 rfl (lv_at hl 1 rfl) ?_
          exact ret ((mtd, upN mws 1 ((vk vv) + 1), upN (upN mwd (16 + (2 * (vk vv))) (((nu 0) + (6 * (nu 1))) + (24 * (nu 2)))) (17 + (2 * (vk vv))) (nu 3), mcs, mca, mbs, mba)) dX10_isGood_180 (nar_01 (by omega)) hS hP (by have haw : aw (vsg vv) (vk vv) (nu 0) (nu 1) (nu 2) = true := haw0; obtain rfl : zz = 1 := (by omega); exact ⟨bI_1 (by rw [gd_w (by omega)]; exact haw), fun q => by rw [gd_w (by omega)]; exact DR_W hDR haw, LK_W⟩)
        refine lv_iload_n C.1 C.2.1 dX10_isGood_94 rfl (lv_at hl 1 rfl) ?_
        refine r_ieq 126 C dX10_isGood_95 rfl (rgN (by omega)) (fun h_35 => ?_) (fun h_35 => ?_)
        · skip
          refine lv_iload_n C.1 C.2.1 dX10_isGood_126 rfl (lv_at hl 1 rfl) ?_
          refine r_ieq 179 C dX10_isGood_127 rfl (rgN (by omega)) (fun h_36 => ?_) (fun h_36 => ?_)
          rotate_left
          · exact absurd h_36 (by omega)
          refine lv_iload_n C.1 C.2.1 dX10_isGood_179 rfl (lv_at hl 1 rfl) ?_
          exact ret ((mtd, mws, mwd, mcs, mca, mbs, mba)) dX10_isGood_180 (nar_01 (by omega)) hS hP (by have hno : ¬ aw (vsg vv) (vk vv) (nu 0) (nu 1) (nu 2) = true := (by rcases hz with q | q; (exfalso; omega); exact q.2); obtain rfl : zz = 0 := (by omega); exact ⟨bI_z (by rw [gd_w (by omega)]; exact hno), fun q => by rw [gd_w (by omega)] at q; exact absurd q (hno), LK_r⟩)
        obtain ⟨hz1, hz2, hz3⟩ : zz = 1 ∧ (nu 0 ≤ 5 ∧ nu 1 ≤ 3 ∧ nu 2 ≤ 2 ∧ vk vv < 8) ∧ ∀ j, j < i → vsg vv j ≠ nu 0 + 6 * nu 1 + 24 * nu 2 := by rcases hz with q | q; exact q; (exfalso; omega)
        refine lv_aload_n C.1 C.2.1 dX10_isGood_98 rfl (lv_at hl 3 rfl) ?_
        refine r_get C hK hP kw_X10 (ci := 8) rfl 0 5 (by decide) kf_X10_20 rfl rfl dX10_isGood_99 ?_
        refine r_bipush 16 C dX10_isGood_102 (by decide) ?_
        refine r_iconst 2 C dX10_isGood_104 rfl ?_
        refine lv_iload C.1 C.2.1 dX10_isGood_105 (lv_at hl 0 rfl) ?_
        refine r_mulN C dX10_isGood_107 ?_
        refine r_addN C dX10_isGood_108 ?_
        refine r_aldN C hK hP 3 rfl ⟨by omega, by omega⟩ dX10_isGood_109 ?_
        refine r_top (v' := nV (vsg vv i)) (by rw [(hDR.2.1.2 i (by omega)).1]) ?_
        have hf_37 := hsg i
        refine lv_iload_n C.1 C.2.1 dX10_isGood_110 rfl (lv_at hl 2 rfl) ?_
        refine r_ceq 118 C dX10_isGood_111 rfl ⟨rgN (by omega), rgN (by omega)⟩ (fun h_38 => ?_) (fun h_38 => ?_)
        · skip
          refine r_iconst 0 C dX10_isGood_118 rfl ?_
          refine lv_istore_n (lv' := [(3, nV 0), (4, nV i), (2, nV (((nu 0) + (6 * (nu 1))) + (24 * (nu 2)))), (0, .ref mo0), (1, zV ll)]) C.1 C.2.1 dX10_isGood_119 rfl hl (by decide) rfl (fun ls hl => ?_)
          refine r_incN (k := 1) (n := 1) [(4, nV (i + 1)), (3, nV 0), (2, nV (((nu 0) + (6 * (nu 1))) + (24 * (nu 2)))), (0, .ref mo0), (1, zV ll)] C dX10_isGood_120 hl rfl rfl (by decide) rfl (fun ls hl => ?_)
          refine r_goto 83 C dX10_isGood_123 rfl ?_
          exact ih_83 (i + 1) 0 _ _ _ (by first | assumption | omega) (by first | assumption | omega) (Or.inr ⟨rfl, aw_no (j := i) (by omega) (by omega)⟩) (by omega) hP hD hS (lv_sub hl [0, 1, 2, 3, 4] rfl)
        refine r_iconst 1 C dX10_isGood_114 rfl ?_
        refine r_goto 119 C dX10_isGood_115 rfl ?_
        refine lv_istore_n (lv' := [(3, nV 1), (4, nV i), (2, nV (((nu 0) + (6 * (nu 1))) + (24 * (nu 2)))), (0, .ref mo0), (1, zV ll)]) C.1 C.2.1 dX10_isGood_119 rfl hl (by decide) rfl (fun ls hl => ?_)
        refine r_incN (k := 1) (n := 1) [(4, nV (i + 1)), (3, nV 1), (2, nV (((nu 0) + (6 * (nu 1))) + (24 * (nu 2)))), (0, .ref mo0), (1, zV ll)] C dX10_isGood_120 hl rfl rfl (by decide) rfl (fun ls hl => ?_)
        refine r_goto 83 C dX10_isGood_123 rfl ?_
        exact ih_83 (i + 1) 1 _ _ _ (by first | assumption | omega) (by first | assumption | omega) (Or.inl ⟨rfl, hz2, fun j hj => by by_cases q : j = i; (rw [q]; omega); exact hz3 j (by omega)⟩) (by omega) hP hD hS (lv_sub hl [0, 1, 2, 3, 4] rfl)
    exact L83 (vk vv - 0 + 1) 0 0 _ _ _ (by first | assumption | omega) (by first | assumption | omega) (Or.inr ⟨rfl, aw_lim (by omega)⟩) (Nat.lt_succ_self _) hP hD hS (lv_sub hl [0, 1, 2, 3, 4] rfl)
  refine lv_aload_n C.1 C.2.1 dX10_isGood_43 rfl (lv_at hl 1 rfl) ?_
  refine r_iconst 1 C dX10_isGood_44 rfl ?_
  refine r_iconst 0 C dX10_isGood_45 rfl ?_
  refine r_iconst 3 C dX10_isGood_46 rfl ?_
  refine ro_callV (As := [nV 1, nV 0, nV 3]) (rest := []) C hK (c_X10_isIn l g mo0 mA1 mA3 mA4 mA5 mA6 mA7 mA8 mA9 mA10 mA11 mA12 mA15 mA16 mA17 mA20 mL mAt kz dn mAb mBe mCl mgt 1 0 3 (nu 1) (by omega) (by first | assumption | omega) (by first | assumption | omega) (hnb 1 (by omega)) (hnu 1 (by omega))) (hP.sub (ws' := [(mo0, .inr (8, [nV mL, .ref mA1, nV mAt, .ref mA3, .ref mA4, .ref mA5, .ref mA6, .ref mA7, .ref mA8, .ref mA9, .ref mA10, .ref mA11, .ref mA12, nV kz, nV dn, .ref mA15, .ref mA16, .ref mA17, mV mAb, mV mBe, .ref mA20, zV mCl])), (mA20, cZ g 4 mgt)]) [0, 8] rfl) (ci := 8) (q0 := 0) rfl rfl kc_X10_isIn kl_X10_94 kn_X10 ki_X10_isIn ke_X10_isIn nk_X10_isIn (rm_lt (by decide) (by decide)) hl rfl (Nat.le_of_ble_eq_true rfl) dX10_isGood_47 (fun r_39 hr_40 => ?_)
  subst hr_40
  refine r_beq 78 C dX10_isGood_50 rfl (fun h_41 => ?_) (fun h_41 => ?_)
  · skip
    refine r_iconst 0 C dX10_isGood_78 rfl ?_
    refine lv_istore_n (lv' := [(3, nV 0), (2, nV (((nu 0) + (6 * (nu 1))) + (24 * (nu 2)))), (0, .ref mo0), (1, zV ll)]) C.1 C.2.1 dX10_isGood_79 rfl hl (by decide) rfl (fun ls hl => ?_)
    refine r_iconst 0 C dX10_isGood_80 rfl ?_
    refine lv_istore (lv' := [(4, nV 0), (3, nV 0), (2, nV (((nu 0) + (6 * (nu 1))) + (24 * (nu 2)))), (0, .ref mo0), (1, zV ll)]) C.1 C.2.1 dX10_isGood_81 hl (by decide) rfl (fun ls hl => ?_)
    have L83 : ∀ (n_83 : Nat) (i : Nat) (zz : Nat) (H : Heap) (locs : List Loc) (ls : Array Slot) (hi : i ≤ vk vv) (hzb : zz ≤ 1) (hz : (zz = 1 ∧ (nu 0 ≤ 5 ∧ nu 1 ≤ 3 ∧ nu 2 ≤ 2 ∧ vk vv < 8) ∧ ∀ j, j < i → vsg vv j ≠ nu 0 + 6 * nu 1 + 24 * nu 2) ∨ (zz = 0 ∧ ¬ aw (vsg vv) (vk vv) (nu 0) (nu 1) (nu 2) = true)) (hm : vk vv - i < n_83) (hP : va_P g.1 vwCl [(mo0, .inr (8, [nV mL, .ref mA1, nV mAt, .ref mA3, .ref mA4, .ref mA5, .ref mA6, .ref mA7, .ref mA8, .ref mA9, .ref mA10, .ref mA11, .ref mA12, nV kz, nV dn, .ref mA15, .ref mA16, .ref mA17, mV mAb, mV mBe, .ref mA20, zV mCl])), (mA3, cN g 4 mtd), (mA4, cN g 2 mws), (mA5, cN g 32 mwd), (mA6, cN g 2 mcs), (mA7, cN g 20 mca), (mA8, cN g 2 mbs), (mA9, cN g 10 mba), (mA20, cZ g 4 mgt)] H) (hD : va_D A [(mo0, .inr (8, [nV mL, .ref mA1, nV mAt, .ref mA3, .ref mA4, .ref mA5, .ref mA6, .ref mA7, .ref mA8, .ref mA9, .ref mA10, .ref mA11, .ref mA12, nV kz, nV dn, .ref mA15, .ref mA16, .ref mA17, mV mAb, mV mBe, .ref mA20, zV mCl])), (mA3, cN g 4 mtd), (mA4, cN g 2 mws), (mA5, cN g 32 mwd), (mA6, cN g 2 mcs), (mA7, cN g 20 mca), (mA8, cN g 2 mbs), (mA9, cN g 10 mba), (mA20, cZ g 4 mgt)]) (hS : va_S A s.heap H locs) (hl : lv_has ls 5 [(4, nV i), (3, nV zz), (2, nV (((nu 0) + (6 * (nu 1))) + (24 * (nu 2)))), (0, .ref mo0), (1, zV ll)]), W p l e (rD 3) s m args below meth c H locs 0 0 Q (F0 m 83 ls []) := by
      intro n_83
      induction n_83 with
      | zero => intro i zz H locs ls hi hzb hz hm hP hD hS hl; exact absurd hm (Nat.not_lt_zero _)
      | succ n_83 ih_83 =>
        intro i zz H locs ls hi hzb hz hm hP hD hS hl
        refine lv_iload C.1 C.2.1 dX10_isGood_83 (lv_at hl 0 rfl) ?_
        refine lv_aload_n C.1 C.2.1 dX10_isGood_85 rfl (lv_at hl 3 rfl) ?_
        refine r_get C hK hP kw_X10 (ci := 8) rfl 0 4 (by decide) kf_X10_17 rfl rfl dX10_isGood_86 ?_
        refine r_iconst 1 C dX10_isGood_89 rfl ?_
        refine r_aldN C hK hP 2 rfl ⟨by omega, by omega⟩ dX10_isGood_90 ?_
        refine r_top (v' := nV (vk vv)) (by rw [hDR.2.1.1]) ?_
        refine r_cge 126 C dX10_isGood_91 rfl ⟨rgN (by omega), rgN (by omega)⟩ (fun h_42 => ?_) (fun h_42 => ?_)
        · skip
          refine lv_iload_n C.1 C.2.1 dX10_isGood_126 rfl (lv_at hl 1 rfl) ?_
          refine r_ieq 179 C dX10_isGood_127 rfl (rgN (by omega)) (fun h_43 => ?_) (fun h_43 => ?_)
          · skip
            refine lv_iload_n C.1 C.2.1 dX10_isGood_179 rfl (lv_at hl 1 rfl) ?_
            exact ret ((mtd, mws, mwd, mcs, mca, mbs, mba)) dX10_isGood_180 (nar_01 (by omega)) hS hP (by have hno : ¬ aw (vsg vv) (vk vv) (nu 0) (nu 1) (nu 2) = true := (by rcases hz with q | q; (exfalso; omega); exact q.2); obtain rfl : zz = 0 := (by omega); exact ⟨bI_z (by rw [gd_w (by omega)]; exact hno), fun q => by rw [gd_w (by omega)] at q; exact absurd q (hno), LK_r⟩)
          obtain ⟨hz1, hz2, hz3⟩ : zz = 1 ∧ (nu 0 ≤ 5 ∧ nu 1 ≤ 3 ∧ nu 2 ≤ 2 ∧ vk vv < 8) ∧ ∀ j, j < i → vsg vv j ≠ nu 0 + 6 * nu 1 + 24 * nu 2 := by rcases hz with q | q; exact q; (exfalso; omega)
          have haw0 : aw (vsg vv) (vk vv) (nu 0) (nu 1) (nu 2) = true := aw_of hz2 (fun j hj => hz3 j (by omega))
          refine lv_aload_n C.1 C.2.1 dX10_isGood_130 rfl (lv_at hl 3 rfl) ?_
          refine r_get C hK hP kw_X10 (ci := 8) rfl 0 5 (by decide) kf_X10_20 rfl rfl dX10_isGood_131 ?_
          refine r_bipush 16 C dX10_isGood_134 (by decide) ?_
          refine r_iconst 2 C dX10_isGood_136 rfl ?_
          refine lv_aload_n C.1 C.2.1 dX10_isGood_137 rfl (lv_at hl 3 rfl) ?_
          refine r_get C hK hP kw_X10 (ci := 8) rfl 0 4 (by decide) kf_X10_17 rfl rfl dX10_isGood_138 ?_
          refine r_iconst 1 C dX10_isGood_141 rfl ?_
          refine r_aldN C hK hP 2 rfl ⟨by omega, by omega⟩ dX10_isGood_142 ?_
          refine r_top (v' := nV (vk vv)) (by rw [hDR.2.1.1]) ?_
          refine r_mulN C dX10_isGood_143 ?_
          refine r_addN C dX10_isGood_144 ?_
          refine lv_iload_n C.1 C.2.1 dX10_isGood_145 rfl (lv_at hl 2 rfl) ?_
          refine r_astN C hK hP hD hS 3 rfl ⟨by omega, by omega⟩ dX10_isGood_146 (fun H locs hP hD hS => ?_)
          have hP : va_P g.1 vwCl [(mo0, .inr (8, [nV mL, .ref mA1, nV mAt, .ref mA3, .ref mA4, .ref mA5, .ref mA6, .ref mA7, .ref mA8, .ref mA9, .ref mA10, .ref mA11, .ref mA12, nV kz, nV dn, .ref mA15, .ref mA16, .ref mA17, mV mAb, mV mBe, .ref mA20, zV mCl])), (mA3, cN g 4 mtd), (mA4, cN g 2 mws), (mA5, cN g 32 (upN mwd (16 + (2 * (vk vv))) (((nu 0) + (6 * (nu 1))) + (24 * (nu 2))))), (mA6, cN g 2 mcs), (mA7, cN g 20 mca), (mA8, cN g 2 mbs), (mA9, cN g 10 mba), (mA20, cZ g 4 mgt)] H := hP
          have hD : va_D A [(mo0, .inr (8, [nV mL, .ref mA1, nV mAt, .ref mA3, .ref mA4, .ref mA5, .ref mA6, .ref mA7, .ref mA8, .ref mA9, .ref mA10, .ref mA11, .ref mA12, nV kz, nV dn, .ref mA15, .ref mA16, .ref mA17, mV mAb, mV mBe, .ref mA20, zV mCl])), (mA3, cN g 4 mtd), (mA4, cN g 2 mws), (mA5, cN g 32 (upN mwd (16 + (2 * (vk vv))) (((nu 0) + (6 * (nu 1))) + (24 * (nu 2))))), (mA6, cN g 2 mcs), (mA7, cN g 20 mca), (mA8, cN g 2 mbs), (mA9, cN g 10 mba), (mA20, cZ g 4 mgt)] := hD
          refine lv_aload_n C.1 C.2.1 dX10_isGood_147 rfl (lv_at hl 3 rfl) ?_
          refine r_get C hK hP kw_X10 (ci := 8) rfl 0 5 (by decide) kf_X10_20 rfl rfl dX10_isGood_148 ?_
          refine r_bipush 17 C dX10_isGood_151 (by decide) ?_
          refine r_iconst 2 C dX10_isGood_153 rfl ?_
          refine lv_aload_n C.1 C.2.1 dX10_isGood_154 rfl (lv_at hl 3 rfl) ?_
          refine r_get C hK hP kw_X10 (ci := 8) rfl 0 4 (by decide) kf_X10_17 rfl rfl dX10_isGood_155 ?_
          refine r_iconst 1 C dX10_isGood_158 rfl ?_
          refine r_aldN C hK hP 2 rfl ⟨by omega, by omega⟩ dX10_isGood_159 ?_
          refine r_top (v' := nV (vk vv)) (by rw [hDR.2.1.1]) ?_
          refine r_mulN C dX10_isGood_160 ?_
          refine r_addN C dX10_isGood_161 ?_
          refine lv_aload_n C.1 C.2.1 dX10_isGood_162 rfl (lv_at hl 3 rfl) ?_
          refine r_get C hK hP kw_X10 (ci := 8) rfl 0 20 (by decide) kf_X10_54 rfl rfl dX10_isGood_163 ?_
          refine r_iconst 3 C dX10_isGood_166 rfl ?_
          refine r_aldZ C hK hP 8 rfl ⟨by omega, by omega⟩ dX10_isGood_167 ?_
          refine r_top (v' := nV (nu 3)) (congrArg Value.int (congrArg iI (hnu 3 (by omega)))) ?_
          have hf_44 := hnb 3 (by omega)
          refine r_astN C hK hP hD hS 3 rfl ⟨by omega, by omega⟩ dX10_isGood_168 (fun H locs hP hD hS => ?_)
          have hP : va_P g.1 vwCl [(mo0, .inr (8, [nV mL, .ref mA1, nV mAt, .ref mA3, .ref mA4, .ref mA5, .ref mA6, .ref mA7, .ref mA8, .ref mA9, .ref mA10, .ref mA11, .ref mA12, nV kz, nV dn, .ref mA15, .ref mA16, .ref mA17, mV mAb, mV mBe, .ref mA20, zV mCl])), (mA3, cN g 4 mtd), (mA4, cN g 2 mws), (mA5, cN g 32 (upN (upN mwd (16 + (2 * (vk vv))) (((nu 0) + (6 * (nu 1))) + (24 * (nu 2)))) (17 + (2 * (vk vv))) (nu 3))), (mA6, cN g 2 mcs), (mA7, cN g 20 mca), (mA8, cN g 2 mbs), (mA9, cN g 10 mba), (mA20, cZ g 4 mgt)] H := hP
          have hD : va_D A [(mo0, .inr (8, [nV mL, .ref mA1, nV mAt, .ref mA3, .ref mA4, .ref mA5, .ref mA6, .ref mA7, .ref mA8, .ref mA9, .ref mA10, .ref mA11, .ref mA12, nV kz, nV dn, .ref mA15, .ref mA16, .ref mA17, mV mAb, mV mBe, .ref mA20, zV mCl])), (mA3, cN g 4 mtd), (mA4, cN g 2 mws), (mA5, cN g 32 (upN (upN mwd (16 + (2 * (vk vv))) (((nu 0) + (6 * (nu 1))) + (24 * (nu 2)))) (17 + (2 * (vk vv))) (nu 3))), (mA6, cN g 2 mcs), (mA7, cN g 20 mca), (mA8, cN g 2 mbs), (mA9, cN g 10 mba), (mA20, cZ g 4 mgt)] := hD
          refine lv_aload_n C.1 C.2.1 dX10_isGood_169 rfl (lv_at hl 3 rfl) ?_
          refine r_get C hK hP kw_X10 (ci := 8) rfl 0 4 (by decide) kf_X10_17 rfl rfl dX10_isGood_170 ?_
          refine r_iconst 1 C dX10_isGood_173 rfl ?_
          refine lv_dup2_11 C.1 C.2.1 dX10_isGood_174 rfl rfl ?_
          refine r_aldN C hK hP 2 rfl ⟨by omega, by omega⟩ dX10_isGood_175 ?_
          refine r_top (v' := nV (vk vv)) (by rw [hDR.2.1.1]) ?_
          refine r_iconst 1 C dX10_isGood_176 rfl ?_
          refine r_addN C dX10_isGood_177 ?_
          refine r_astN C hK hP hD hS 2 rfl ⟨by omega, by omega⟩ dX10_isGood_178 (fun H locs hP hD hS => ?_)
          have hP : va_P g.1 vwCl [(mo0, .inr (8, [nV mL, .ref mA1, nV mAt, .ref mA3, .ref mA4, .ref mA5, .ref mA6, .ref mA7, .ref mA8, .ref mA9, .ref mA10, .ref mA11, .ref mA12, nV kz, nV dn, .ref mA15, .ref mA16, .ref mA17, mV mAb, mV mBe, .ref mA20, zV mCl])), (mA3, cN g 4 mtd), (mA4, cN g 2 (upN mws 1 ((vk vv) + 1))), (mA5, cN g 32 (upN (upN mwd (16 + (2 * (vk vv))) (((nu 0) + (6 * (nu 1))) + (24 * (nu 2)))) (17 + (2 * (vk vv))) (nu 3))), (mA6, cN g 2 mcs), (mA7, cN g 20 mca), (mA8, cN g 2 mbs), (mA9, cN g 10 mba), (mA20, cZ g 4 mgt)] H := hP
          have hD : va_D A [(mo0, .inr (8, [nV mL, .ref mA1, nV mAt, .ref mA3, .ref mA4, .ref mA5, .ref mA6, .ref mA7, .ref mA8, .ref mA9, .ref mA10, .ref mA11, .ref mA12, nV kz, nV dn, .ref mA15, .ref mA16, .ref mA17, mV mAb, mV mBe, .ref mA20, zV mCl])), (mA3, cN g 4 mtd), (mA4, cN g 2 (upN mws 1 ((vk vv) + 1))), (mA5, cN g 32 (upN (upN mwd (16 + (2 * (vk vv))) (((nu 0) + (6 * (nu 1))) + (24 * (nu 2)))) (17 + (2 * (vk vv))) (nu 3))), (mA6, cN g 2 mcs), (mA7, cN g 20 mca), (mA8, cN g 2 mbs), (mA9, cN g 10 mba), (mA20, cZ g 4 mgt)] := hD
          refine lv_iload_n C.1 C.2.1 dX10_isGood_179 rfl (lv_at hl 1 rfl) ?_
          exact ret ((mtd, upN mws 1 ((vk vv) + 1), upN (upN mwd (16 + (2 * (vk vv))) (((nu 0) + (6 * (nu 1))) + (24 * (nu 2)))) (17 + (2 * (vk vv))) (nu 3), mcs, mca, mbs, mba)) dX10_isGood_180 (nar_01 (by omega)) hS hP (by have haw : aw (vsg vv) (vk vv) (nu 0) (nu 1) (nu 2) = true := haw0; obtain rfl : zz = 1 := (by omega); exact ⟨bI_1 (by rw [gd_w (by omega)]; exact haw), fun q => by rw [gd_w (by omega)]; exact DR_W hDR haw, LK_W⟩)
        refine lv_iload_n C.1 C.2.1 dX10_isGood_94 rfl (lv_at hl 1 rfl) ?_
        refine r_ieq 126 C dX10_isGood_95 rfl (rgN (by omega)) (fun h_45 => ?_) (fun h_45 => ?_)
        · skip
          refine lv_iload_n C.1 C.2.1 dX10_isGood_126 rfl (lv_at hl 1 rfl) ?_
          refine r_ieq 179 C dX10_isGood_127 rfl (rgN (by omega)) (fun h_46 => ?_) (fun h_46 => ?_)
          rotate_left
          · exact absurd h_46 (by omega)
          refine lv_iload_n C.1 C.2.1 dX10_isGood_179 rfl (lv_at hl 1 rfl) ?_
          exact ret ((mtd, mws, mwd, mcs, mca, mbs, mba)) dX10_isGood_180 (nar_01 (by omega)) hS hP (by have hno : ¬ aw (vsg vv) (vk vv) (nu 0) (nu 1) (nu 2) = true := (by rcases hz with q | q; (exfalso; omega); exact q.2); obtain rfl : zz = 0 := (by omega); exact ⟨bI_z (by rw [gd_w (by omega)]; exact hno), fun q => by rw [gd_w (by omega)] at q; exact absurd q (hno), LK_r⟩)
        obtain ⟨hz1, hz2, hz3⟩ : zz = 1 ∧ (nu 0 ≤ 5 ∧ nu 1 ≤ 3 ∧ nu 2 ≤ 2 ∧ vk vv < 8) ∧ ∀ j, j < i → vsg vv j ≠ nu 0 + 6 * nu 1 + 24 * nu 2 := by rcases hz with q | q; exact q; (exfalso; omega)
        refine lv_aload_n C.1 C.2.1 dX10_isGood_98 rfl (lv_at hl 3 rfl) ?_
        refine r_get C hK hP kw_X10 (ci := 8) rfl 0 5 (by decide) kf_X10_20 rfl rfl dX10_isGood_99 ?_
        refine r_bipush 16 C dX10_isGood_102 (by decide) ?_
        refine r_iconst 2 C dX10_isGood_104 rfl ?_
        refine lv_iload C.1 C.2.1 dX10_isGood_105 (lv_at hl 0 rfl) ?_
        refine r_mulN C dX10_isGood_107 ?_
        refine r_addN C dX10_isGood_108 ?_
        refine r_aldN C hK hP 3 rfl ⟨by omega, by omega⟩ dX10_isGood_109 ?_
        refine r_top (v' := nV (vsg vv i)) (by rw [(hDR.2.1.2 i (by omega)).1]) ?_
        have hf_47 := hsg i
        refine lv_iload_n C.1 C.2.1 dX10_isGood_110 rfl (lv_at hl 2 rfl) ?_
        refine r_ceq 118 C dX10_isGood_111 rfl ⟨rgN (by omega), rgN (by omega)⟩ (fun h_48 => ?_) (fun h_48 => ?_)
        · skip
          refine r_iconst 0 C dX10_isGood_118 rfl ?_
          refine lv_istore_n (lv' := [(3, nV 0), (4, nV i), (2, nV (((nu 0) + (6 * (nu 1))) + (24 * (nu 2)))), (0, .ref mo0), (1, zV ll)]) C.1 C.2.1 dX10_isGood_119 rfl hl (by decide) rfl (fun ls hl => ?_)
          refine r_incN (k := 1) (n := 1) [(4, nV (i + 1)), (3, nV 0), (2, nV (((nu 0) + (6 * (nu 1))) + (24 * (nu 2)))), (0, .ref mo0), (1, zV ll)] C dX10_isGood_120 hl rfl rfl (by decide) rfl (fun ls hl => ?_)
          refine r_goto 83 C dX10_isGood_123 rfl ?_
          exact ih_83 (i + 1) 0 _ _ _ (by first | assumption | omega) (by first | assumption | omega) (Or.inr ⟨rfl, aw_no (j := i) (by omega) (by omega)⟩) (by omega) hP hD hS (lv_sub hl [0, 1, 2, 3, 4] rfl)
        refine r_iconst 1 C dX10_isGood_114 rfl ?_
        refine r_goto 119 C dX10_isGood_115 rfl ?_
        refine lv_istore_n (lv' := [(3, nV 1), (4, nV i), (2, nV (((nu 0) + (6 * (nu 1))) + (24 * (nu 2)))), (0, .ref mo0), (1, zV ll)]) C.1 C.2.1 dX10_isGood_119 rfl hl (by decide) rfl (fun ls hl => ?_)
        refine r_incN (k := 1) (n := 1) [(4, nV (i + 1)), (3, nV 1), (2, nV (((nu 0) + (6 * (nu 1))) + (24 * (nu 2)))), (0, .ref mo0), (1, zV ll)] C dX10_isGood_120 hl rfl rfl (by decide) rfl (fun ls hl => ?_)
        refine r_goto 83 C dX10_isGood_123 rfl ?_
        exact ih_83 (i + 1) 1 _ _ _ (by first | assumption | omega) (by first | assumption | omega) (Or.inl ⟨rfl, hz2, fun j hj => by by_cases q : j = i; (rw [q]; omega); exact hz3 j (by omega)⟩) (by omega) hP hD hS (lv_sub hl [0, 1, 2, 3, 4] rfl)
    exact L83 (vk vv - 0 + 1) 0 0 _ _ _ (by first | assumption | omega) (by first | assumption | omega) (Or.inr ⟨rfl, aw_lim (by omega)⟩) (Nat.lt_succ_self _) hP hD hS (lv_sub hl [0, 1, 2, 3, 4] rfl)
  refine lv_aload_n C.1 C.2.1 dX10_isGood_53 rfl (lv_at hl 1 rfl) ?_
  refine r_iconst 2 C dX10_isGood_54 rfl ?_
  refine r_iconst 0 C dX10_isGood_55 rfl ?_
  refine r_iconst 2 C dX10_isGood_56 rfl ?_
  refine ro_callV (As := [nV 2, nV 0, nV 2]) (rest := []) C hK (c_X10_isIn l g mo0 mA1 mA3 mA4 mA5 mA6 mA7 mA8 mA9 mA10 mA11 mA12 mA15 mA16 mA17 mA20 mL mAt kz dn mAb mBe mCl mgt 2 0 2 (nu 2) (by omega) (by first | assumption | omega) (by first | assumption | omega) (hnb 2 (by omega)) (hnu 2 (by omega))) (hP.sub (ws' := [(mo0, .inr (8, [nV mL, .ref mA1, nV mAt, .ref mA3, .ref mA4, .ref mA5, .ref mA6, .ref mA7, .ref mA8, .ref mA9, .ref mA10, .ref mA11, .ref mA12, nV kz, nV dn, .ref mA15, .ref mA16, .ref mA17, mV mAb, mV mBe, .ref mA20, zV mCl])), (mA20, cZ g 4 mgt)]) [0, 8] rfl) (ci := 8) (q0 := 0) rfl rfl kc_X10_isIn kl_X10_94 kn_X10 ki_X10_isIn ke_X10_isIn nk_X10_isIn (rm_lt (by decide) (by decide)) hl rfl (Nat.le_of_ble_eq_true rfl) dX10_isGood_57 (fun r_49 hr_50 => ?_)
  subst hr_50
  refine r_beq 78 C dX10_isGood_60 rfl (fun h_51 => ?_) (fun h_51 => ?_)
  · skip
    refine r_iconst 0 C dX10_isGood_78 rfl ?_
    refine lv_istore_n (lv' := [(3, nV 0), (2, nV (((nu 0) + (6 * (nu 1))) + (24 * (nu 2)))), (0, .ref mo0), (1, zV ll)]) C.1 C.2.1 dX10_isGood_79 rfl hl (by decide) rfl (fun ls hl => ?_)
    refine r_iconst 0 C dX10_isGood_80 rfl ?_
    refine lv_istore (lv' := [(4, nV 0), (3, nV 0), (2, nV (((nu 0) + (6 * (nu 1))) + (24 * (nu 2)))), (0, .ref mo0), (1, zV ll)]) C.1 C.2.1 dX10_isGood_81 hl (by decide) rfl (fun ls hl => ?_)
    have L83 : ∀ (n_83 : Nat) (i : Nat) (zz : Nat) (H : Heap) (locs : List Loc) (ls : Array Slot) (hi : i ≤ vk vv) (hzb : zz ≤ 1) (hz : (zz = 1 ∧ (nu 0 ≤ 5 ∧ nu 1 ≤ 3 ∧ nu 2 ≤ 2 ∧ vk vv < 8) ∧ ∀ j, j < i → vsg vv j ≠ nu 0 + 6 * nu 1 + 24 * nu 2) ∨ (zz = 0 ∧ ¬ aw (vsg vv) (vk vv) (nu 0) (nu 1) (nu 2) = true)) (hm : vk vv - i < n_83) (hP : va_P g.1 vwCl [(mo0, .inr (8, [nV mL, .ref mA1, nV mAt, .ref mA3, .ref mA4, .ref mA5, .ref mA6, .ref mA7, .ref mA8, .ref mA9, .ref mA10, .ref mA11, .ref mA12, nV kz, nV dn, .ref mA15, .ref mA16, .ref mA17, mV mAb, mV mBe, .ref mA20, zV mCl])), (mA3, cN g 4 mtd), (mA4, cN g 2 mws), (mA5, cN g 32 mwd), (mA6, cN g 2 mcs), (mA7, cN g 20 mca), (mA8, cN g 2 mbs), (mA9, cN g 10 mba), (mA20, cZ g 4 mgt)] H) (hD : va_D A [(mo0, .inr (8, [nV mL, .ref mA1, nV mAt, .ref mA3, .ref mA4, .ref mA5, .ref mA6, .ref mA7, .ref mA8, .ref mA9, .ref mA10, .ref mA11, .ref mA12, nV kz, nV dn, .ref mA15, .ref mA16, .ref mA17, mV mAb, mV mBe, .ref mA20, zV mCl])), (mA3, cN g 4 mtd), (mA4, cN g 2 mws), (mA5, cN g 32 mwd), (mA6, cN g 2 mcs), (mA7, cN g 20 mca), (mA8, cN g 2 mbs), (mA9, cN g 10 mba), (mA20, cZ g 4 mgt)]) (hS : va_S A s.heap H locs) (hl : lv_has ls 5 [(4, nV i), (3, nV zz), (2, nV (((nu 0) + (6 * (nu 1))) + (24 * (nu 2)))), (0, .ref mo0), (1, zV ll)]), W p l e (rD 3) s m args below meth c H locs 0 0 Q (F0 m 83 ls []) := by
      intro n_83
      induction n_83 with
      | zero => intro i zz H locs ls hi hzb hz hm hP hD hS hl; exact absurd hm (Nat.not_lt_zero _)
      | succ n_83 ih_83 =>
        intro i zz H locs ls hi hzb hz hm hP hD hS hl
        refine lv_iload C.1 C.2.1 dX10_isGood_83 (lv_at hl 0 rfl) ?_
        refine lv_aload_n C.1 C.2.1 dX10_isGood_85 rfl (lv_at hl 3 rfl) ?_
        refine r_get C hK hP kw_X10 (ci := 8) rfl 0 4 (by decide) kf_X10_17 rfl rfl dX10_isGood_86 ?_
        refine r_iconst 1 C dX10_isGood_89 rfl ?_
        refine r_aldN C hK hP 2 rfl ⟨by omega, by omega⟩ dX10_isGood_90 ?_
        refine r_top (v' := nV (vk vv)) (by rw [hDR.2.1.1]) ?_
        refine r_cge 126 C dX10_isGood_91 rfl ⟨rgN (by omega), rgN (by omega)⟩ (fun h_52 => ?_) (fun h_52 => ?_)
        · skip
          refine lv_iload_n C.1 C.2.1 dX10_isGood_126 rfl (lv_at hl 1 rfl) ?_
          refine r_ieq 179 C dX10_isGood_127 rfl (rgN (by omega)) (fun h_53 => ?_) (fun h_53 => ?_)
          · skip
            refine lv_iload_n C.1 C.2.1 dX10_isGood_179 rfl (lv_at hl 1 rfl) ?_
            exact ret ((mtd, mws, mwd, mcs, mca, mbs, mba)) dX10_isGood_180 (nar_01 (by omega)) hS hP (by have hno : ¬ aw (vsg vv) (vk vv) (nu 0) (nu 1) (nu 2) = true := (by rcases hz with q | q; (exfalso; omega); exact q.2); obtain rfl : zz = 0 := (by omega); exact ⟨bI_z (by rw [gd_w (by omega)]; exact hno), fun q => by rw [gd_w (by omega)] at q; exact absurd q (hno), LK_r⟩)
          obtain ⟨hz1, hz2, hz3⟩ : zz = 1 ∧ (nu 0 ≤ 5 ∧ nu 1 ≤ 3 ∧ nu 2 ≤ 2 ∧ vk vv < 8) ∧ ∀ j, j < i → vsg vv j ≠ nu 0 + 6 * nu 1 + 24 * nu 2 := by rcases hz with q | q; exact q; (exfalso; omega)
          have haw0 : aw (vsg vv) (vk vv) (nu 0) (nu 1) (nu 2) = true := aw_of hz2 (fun j hj => hz3 j (by omega))
          refine lv_aload_n C.1 C.2.1 dX10_isGood_130 rfl (lv_at hl 3 rfl) ?_
          refine r_get C hK hP kw_X10 (ci := 8) rfl 0 5 (by decide) kf_X10_20 rfl rfl dX10_isGood_131 ?_
          refine r_bipush 16 C dX10_isGood_134 (by decide) ?_
          refine r_iconst 2 C dX10_isGood_136 rfl ?_
          refine lv_aload_n C.1 C.2.1 dX10_isGood_137 rfl (lv_at hl 3 rfl) ?_
          refine r_get C hK hP kw_X10 (ci := 8) rfl 0 4 (by decide) kf_X10_17 rfl rfl dX10_isGood_138 ?_
          refine r_iconst 1 C dX10_isGood_141 rfl ?_
          refine r_aldN C hK hP 2 rfl ⟨by omega, by omega⟩ dX10_isGood_142 ?_
          refine r_top (v' := nV (vk vv)) (by rw [hDR.2.1.1]) ?_
          refine r_mulN C dX10_isGood_143 ?_
          refine r_addN C dX10_isGood_144 ?_
          refine lv_iload_n C.1 C.2.1 dX10_isGood_145 rfl (lv_at hl 2 rfl) ?_
          refine r_astN C hK hP hD hS 3 rfl ⟨by omega, by omega⟩ dX10_isGood_146 (fun H locs hP hD hS => ?_)
          have hP : va_P g.1 vwCl [(mo0, .inr (8, [nV mL, .ref mA1, nV mAt, .ref mA3, .ref mA4, .ref mA5, .ref mA6, .ref mA7, .ref mA8, .ref mA9, .ref mA10, .ref mA11, .ref mA12, nV kz, nV dn, .ref mA15, .ref mA16, .ref mA17, mV mAb, mV mBe, .ref mA20, zV mCl])), (mA3, cN g 4 mtd), (mA4, cN g 2 mws), (mA5, cN g 32 (upN mwd (16 + (2 * (vk vv))) (((nu 0) + (6 * (nu 1))) + (24 * (nu 2))))), (mA6, cN g 2 mcs), (mA7, cN g 20 mca), (mA8, cN g 2 mbs), (mA9, cN g 10 mba), (mA20, cZ g 4 mgt)] H := hP
          have hD : va_D A [(mo0, .inr (8, [nV mL, .ref mA1, nV mAt, .ref mA3, .ref mA4, .ref mA5, .ref mA6, .ref mA7, .ref mA8, .ref mA9, .ref mA10, .ref mA11, .ref mA12, nV kz, nV dn, .ref mA15, .ref mA16, .ref mA17, mV mAb, mV mBe, .ref mA20, zV mCl])), (mA3, cN g 4 mtd), (mA4, cN g 2 mws), (mA5, cN g 32 (upN mwd (16 + (2 * (vk vv))) (((nu 0) + (6 * (nu 1))) + (24 * (nu 2))))), (mA6, cN g 2 mcs), (mA7, cN g 20 mca), (mA8, cN g 2 mbs), (mA9, cN g 10 mba), (mA20, cZ g 4 mgt)] := hD
          refine lv_aload_n C.1 C.2.1 dX10_isGood_147 rfl (lv_at hl 3 rfl) ?_
          refine r_get C hK hP kw_X10 (ci := 8) rfl 0 5 (by decide) kf_X10_20 rfl rfl dX10_isGood_148 ?_
          refine r_bipush 17 C dX10_isGood_151 (by decide) ?_
          refine r_iconst 2 C dX10_isGood_153 rfl ?_
          refine lv_aload_n C.1 C.2.1 dX10_isGood_154 rfl (lv_at hl 3 rfl) ?_
          refine r_get C hK hP kw_X10 (ci := 8) rfl 0 4 (by decide) kf_X10_17 rfl rfl dX10_isGood_155 ?_
          refine r_iconst 1 C dX10_isGood_158 rfl ?_
          refine r_aldN C hK hP 2 rfl ⟨by omega, by omega⟩ dX10_isGood_159 ?_
          refine r_top (v' := nV (vk vv)) (by rw [hDR.2.1.1]) ?_
          refine r_mulN C dX10_isGood_160 ?_
          refine r_addN C dX10_isGood_161 ?_
          refine lv_aload_n C.1 C.2.1 dX10_isGood_162 rfl (lv_at hl 3 rfl) ?_
          refine r_get C hK hP kw_X10 (ci := 8) rfl 0 20 (by decide) kf_X10_54 rfl rfl dX10_isGood_163 ?_
          refine r_iconst 3 C dX10_isGood_166 rfl ?_
          refine r_aldZ C hK hP 8 rfl ⟨by omega, by omega⟩ dX10_isGood_167 ?_
          refine r_top (v' := nV (nu 3)) (congrArg Value.int (congrArg iI (hnu 3 (by omega)))) ?_
          have hf_54 := hnb 3 (by omega)
          refine r_astN C hK hP hD hS 3 rfl ⟨by omega, by omega⟩ dX10_isGood_168 (fun H locs hP hD hS => ?_)
          have hP : va_P g.1 vwCl [(mo0, .inr (8, [nV mL, .ref mA1, nV mAt, .ref mA3, .ref mA4, .ref mA5, .ref mA6, .ref mA7, .ref mA8, .ref mA9, .ref mA10, .ref mA11, .ref mA12, nV kz, nV dn, .ref mA15, .ref mA16, .ref mA17, mV mAb, mV mBe, .ref mA20, zV mCl])), (mA3, cN g 4 mtd), (mA4, cN g 2 mws), (mA5, cN g 32 (upN (upN mwd (16 + (2 * (vk vv))) (((nu 0) + (6 * (nu 1))) + (24 * (nu 2)))) (17 + (2 * (vk vv))) (nu 3))), (mA6, cN g 2 mcs), (mA7, cN g 20 mca), (mA8, cN g 2 mbs), (mA9, cN g 10 mba), (mA20, cZ g 4 mgt)] H := hP
          have hD : va_D A [(mo0, .inr (8, [nV mL, .ref mA1, nV mAt, .ref mA3, .ref mA4, .ref mA5, .ref mA6, .ref mA7, .ref mA8, .ref mA9, .ref mA10, .ref mA11, .ref mA12, nV kz, nV dn, .ref mA15, .ref mA16, .ref mA17, mV mAb, mV mBe, .ref mA20, zV mCl])), (mA3, cN g 4 mtd), (mA4, cN g 2 mws), (mA5, cN g 32 (upN (upN mwd (16 + (2 * (vk vv))) (((nu 0) + (6 * (nu 1))) + (24 * (nu 2)))) (17 + (2 * (vk vv))) (nu 3))), (mA6, cN g 2 mcs), (mA7, cN g 20 mca), (mA8, cN g 2 mbs), (mA9, cN g 10 mba), (mA20, cZ g 4 mgt)] := hD
          refine lv_aload_n C.1 C.2.1 dX10_isGood_169 rfl (lv_at hl 3 rfl) ?_
          refine r_get C hK hP kw_X10 (ci := 8) rfl 0 4 (by decide) kf_X10_17 rfl rfl dX10_isGood_170 ?_
          refine r_iconst 1 C dX10_isGood_173 rfl ?_
          refine lv_dup2_11 C.1 C.2.1 dX10_isGood_174 rfl rfl ?_
          refine r_aldN C hK hP 2 rfl ⟨by omega, by omega⟩ dX10_isGood_175 ?_
          refine r_top (v' := nV (vk vv)) (by rw [hDR.2.1.1]) ?_
          refine r_iconst 1 C dX10_isGood_176 rfl ?_
          refine r_addN C dX10_isGood_177 ?_
          refine r_astN C hK hP hD hS 2 rfl ⟨by omega, by omega⟩ dX10_isGood_178 (fun H locs hP hD hS => ?_)
          have hP : va_P g.1 vwCl [(mo0, .inr (8, [nV mL, .ref mA1, nV mAt, .ref mA3, .ref mA4, .ref mA5, .ref mA6, .ref mA7, .ref mA8, .ref mA9, .ref mA10, .ref mA11, .ref mA12, nV kz, nV dn, .ref mA15, .ref mA16, .ref mA17, mV mAb, mV mBe, .ref mA20, zV mCl])), (mA3, cN g 4 mtd), (mA4, cN g 2 (upN mws 1 ((vk vv) + 1))), (mA5, cN g 32 (upN (upN mwd (16 + (2 * (vk vv))) (((nu 0) + (6 * (nu 1))) + (24 * (nu 2)))) (17 + (2 * (vk vv))) (nu 3))), (mA6, cN g 2 mcs), (mA7, cN g 20 mca), (mA8, cN g 2 mbs), (mA9, cN g 10 mba), (mA20, cZ g 4 mgt)] H := hP
          have hD : va_D A [(mo0, .inr (8, [nV mL, .ref mA1, nV mAt, .ref mA3, .ref mA4, .ref mA5, .ref mA6, .ref mA7, .ref mA8, .ref mA9, .ref mA10, .ref mA11, .ref mA12, nV kz, nV dn, .ref mA15, .ref mA16, .ref mA17, mV mAb, mV mBe, .ref mA20, zV mCl])), (mA3, cN g 4 mtd), (mA4, cN g 2 (upN mws 1 ((vk vv) + 1))), (mA5, cN g 32 (upN (upN mwd (16 + (2 * (vk vv))) (((nu 0) + (6 * (nu 1))) + (24 * (nu 2)))) (17 + (2 * (vk vv))) (nu 3))), (mA6, cN g 2 mcs), (mA7, cN g 20 mca), (mA8, cN g 2 mbs), (mA9, cN g 10 mba), (mA20, cZ g 4 mgt)] := hD
          refine lv_iload_n C.1 C.2.1 dX10_isGood_179 rfl (lv_at hl 1 rfl) ?_
          exact ret ((mtd, upN mws 1 ((vk vv) + 1), upN (upN mwd (16 + (2 * (vk vv))) (((nu 0) + (6 * (nu 1))) + (24 * (nu 2)))) (17 + (2 * (vk vv))) (nu 3), mcs, mca, mbs, mba)) dX10_isGood_180 (nar_01 (by omega)) hS hP (by have haw : aw (vsg vv) (vk vv) (nu 0) (nu 1) (nu 2) = true := haw0; obtain rfl : zz = 1 := (by omega); exact ⟨bI_1 (by rw [gd_w (by omega)]; exact haw), fun q => by rw [gd_w (by omega)]; exact DR_W hDR haw, LK_W⟩)
        refine lv_iload_n C.1 C.2.1 dX10_isGood_94 rfl (lv_at hl 1 rfl) ?_
        refine r_ieq 126 C dX10_isGood_95 rfl (rgN (by omega)) (fun h_55 => ?_) (fun h_55 => ?_)
        · skip
          refine lv_iload_n C.1 C.2.1 dX10_isGood_126 rfl (lv_at hl 1 rfl) ?_
          refine r_ieq 179 C dX10_isGood_127 rfl (rgN (by omega)) (fun h_56 => ?_) (fun h_56 => ?_)
          rotate_left
          · exact absurd h_56 (by omega)
          refine lv_iload_n C.1 C.2.1 dX10_isGood_179 rfl (lv_at hl 1 rfl) ?_
          exact ret ((mtd, mws, mwd, mcs, mca, mbs, mba)) dX10_isGood_180 (nar_01 (by omega)) hS hP (by have hno : ¬ aw (vsg vv) (vk vv) (nu 0) (nu 1) (nu 2) = true := (by rcases hz with q | q; (exfalso; omega); exact q.2); obtain rfl : zz = 0 := (by omega); exact ⟨bI_z (by rw [gd_w (by omega)]; exact hno), fun q => by rw [gd_w (by omega)] at q; exact absurd q (hno), LK_r⟩)
        obtain ⟨hz1, hz2, hz3⟩ : zz = 1 ∧ (nu 0 ≤ 5 ∧ nu 1 ≤ 3 ∧ nu 2 ≤ 2 ∧ vk vv < 8) ∧ ∀ j, j < i → vsg vv j ≠ nu 0 + 6 * nu 1 + 24 * nu 2 := by rcases hz with q | q; exact q; (exfalso; omega)
        refine lv_aload_n C.1 C.2.1 dX10_isGood_98 rfl (lv_at hl 3 rfl) ?_
        refine r_get C hK hP kw_X10 (ci := 8) rfl 0 5 (by decide) kf_X10_20 rfl rfl dX10_isGood_99 ?_
        refine r_bipush 16 C dX10_isGood_102 (by decide) ?_
        refine r_iconst 2 C dX10_isGood_104 rfl ?_
        refine lv_iload C.1 C.2.1 dX10_isGood_105 (lv_at hl 0 rfl) ?_
        refine r_mulN C dX10_isGood_107 ?_
        refine r_addN C dX10_isGood_108 ?_
        refine r_aldN C hK hP 3 rfl ⟨by omega, by omega⟩ dX10_isGood_109 ?_
        refine r_top (v' := nV (vsg vv i)) (by rw [(hDR.2.1.2 i (by omega)).1]) ?_
        have hf_57 := hsg i
        refine lv_iload_n C.1 C.2.1 dX10_isGood_110 rfl (lv_at hl 2 rfl) ?_
        refine r_ceq 118 C dX10_isGood_111 rfl ⟨rgN (by omega), rgN (by omega)⟩ (fun h_58 => ?_) (fun h_58 => ?_)
        · skip
          refine r_iconst 0 C dX10_isGood_118 rfl ?_
          refine lv_istore_n (lv' := [(3, nV 0), (4, nV i), (2, nV (((nu 0) + (6 * (nu 1))) + (24 * (nu 2)))), (0, .ref mo0), (1, zV ll)]) C.1 C.2.1 dX10_isGood_119 rfl hl (by decide) rfl (fun ls hl => ?_)
          refine r_incN (k := 1) (n := 1) [(4, nV (i + 1)), (3, nV 0), (2, nV (((nu 0) + (6 * (nu 1))) + (24 * (nu 2)))), (0, .ref mo0), (1, zV ll)] C dX10_isGood_120 hl rfl rfl (by decide) rfl (fun ls hl => ?_)
          refine r_goto 83 C dX10_isGood_123 rfl ?_
          exact ih_83 (i + 1) 0 _ _ _ (by first | assumption | omega) (by first | assumption | omega) (Or.inr ⟨rfl, aw_no (j := i) (by omega) (by omega)⟩) (by omega) hP hD hS (lv_sub hl [0, 1, 2, 3, 4] rfl)
        refine r_iconst 1 C dX10_isGood_114 rfl ?_
        refine r_goto 119 C dX10_isGood_115 rfl ?_
        refine lv_istore_n (lv' := [(3, nV 1), (4, nV i), (2, nV (((nu 0) + (6 * (nu 1))) + (24 * (nu 2)))), (0, .ref mo0), (1, zV ll)]) C.1 C.2.1 dX10_isGood_119 rfl hl (by decide) rfl (fun ls hl => ?_)
        refine r_incN (k := 1) (n := 1) [(4, nV (i + 1)), (3, nV 1), (2, nV (((nu 0) + (6 * (nu 1))) + (24 * (nu 2)))), (0, .ref mo0), (1, zV ll)] C dX10_isGood_120 hl rfl rfl (by decide) rfl (fun ls hl => ?_)
        refine r_goto 83 C dX10_isGood_123 rfl ?_
        exact ih_83 (i + 1) 1 _ _ _ (by first | assumption | omega) (by first | assumption | omega) (Or.inl ⟨rfl, hz2, fun j hj => by by_cases q : j = i; (rw [q]; omega); exact hz3 j (by omega)⟩) (by omega) hP hD hS (lv_sub hl [0, 1, 2, 3, 4] rfl)
    exact L83 (vk vv - 0 + 1) 0 0 _ _ _ (by first | assumption | omega) (by first | assumption | omega) (Or.inr ⟨rfl, aw_lim (by omega)⟩) (Nat.lt_succ_self _) hP hD hS (lv_sub hl [0, 1, 2, 3, 4] rfl)
  refine lv_aload_n C.1 C.2.1 dX10_isGood_63 rfl (lv_at hl 1 rfl) ?_
  refine r_get C hK hP kw_X10 (ci := 8) rfl 0 4 (by decide) kf_X10_17 rfl rfl dX10_isGood_64 ?_
  refine r_iconst 1 C dX10_isGood_67 rfl ?_
  refine r_aldN C hK hP 2 rfl ⟨by omega, by omega⟩ dX10_isGood_68 ?_
  refine r_top (v' := nV (vk vv)) (by rw [hDR.2.1.1]) ?_
  refine r_bipush 8 C dX10_isGood_69 (by decide) ?_
  refine r_cge 78 C dX10_isGood_71 rfl ⟨rgN (by omega), rgN (by decide)⟩ (fun h_59 => ?_) (fun h_59 => ?_)
  · skip
    refine r_iconst 0 C dX10_isGood_78 rfl ?_
    refine lv_istore_n (lv' := [(3, nV 0), (2, nV (((nu 0) + (6 * (nu 1))) + (24 * (nu 2)))), (0, .ref mo0), (1, zV ll)]) C.1 C.2.1 dX10_isGood_79 rfl hl (by decide) rfl (fun ls hl => ?_)
    refine r_iconst 0 C dX10_isGood_80 rfl ?_
    refine lv_istore (lv' := [(4, nV 0), (3, nV 0), (2, nV (((nu 0) + (6 * (nu 1))) + (24 * (nu 2)))), (0, .ref mo0), (1, zV ll)]) C.1 C.2.1 dX10_isGood_81 hl (by decide) rfl (fun ls hl => ?_)
    have L83 : ∀ (n_83 : Nat) (i : Nat) (zz : Nat) (H : Heap) (locs : List Loc) (ls : Array Slot) (hi : i ≤ vk vv) (hzb : zz ≤ 1) (hz : (zz = 1 ∧ (nu 0 ≤ 5 ∧ nu 1 ≤ 3 ∧ nu 2 ≤ 2 ∧ vk vv < 8) ∧ ∀ j, j < i → vsg vv j ≠ nu 0 + 6 * nu 1 + 24 * nu 2) ∨ (zz = 0 ∧ ¬ aw (vsg vv) (vk vv) (nu 0) (nu 1) (nu 2) = true)) (hm : vk vv - i < n_83) (hP : va_P g.1 vwCl [(mo0, .inr (8, [nV mL, .ref mA1, nV mAt, .ref mA3, .ref mA4, .ref mA5, .ref mA6, .ref mA7, .ref mA8, .ref mA9, .ref mA10, .ref mA11, .ref mA12, nV kz, nV dn, .ref mA15, .ref mA16, .ref mA17, mV mAb, mV mBe, .ref mA20, zV mCl])), (mA3, cN g 4 mtd), (mA4, cN g 2 mws), (mA5, cN g 32 mwd), (mA6, cN g 2 mcs), (mA7, cN g 20 mca), (mA8, cN g 2 mbs), (mA9, cN g 10 mba), (mA20, cZ g 4 mgt)] H) (hD : va_D A [(mo0, .inr (8, [nV mL, .ref mA1, nV mAt, .ref mA3, .ref mA4, .ref mA5, .ref mA6, .ref mA7, .ref mA8, .ref mA9, .ref mA10, .ref mA11, .ref mA12, nV kz, nV dn, .ref mA15, .ref mA16, .ref mA17, mV mAb, mV mBe, .ref mA20, zV mCl])), (mA3, cN g 4 mtd), (mA4, cN g 2 mws), (mA5, cN g 32 mwd), (mA6, cN g 2 mcs), (mA7, cN g 20 mca), (mA8, cN g 2 mbs), (mA9, cN g 10 mba), (mA20, cZ g 4 mgt)]) (hS : va_S A s.heap H locs) (hl : lv_has ls 5 [(4, nV i), (3, nV zz), (2, nV (((nu 0) + (6 * (nu 1))) + (24 * (nu 2)))), (0, .ref mo0), (1, zV ll)]), W p l e (rD 3) s m args below meth c H locs 0 0 Q (F0 m 83 ls []) := by
      intro n_83
      induction n_83 with
      | zero => intro i zz H locs ls hi hzb hz hm hP hD hS hl; exact absurd hm (Nat.not_lt_zero _)
      | succ n_83 ih_83 =>
        intro i zz H locs ls hi hzb hz hm hP hD hS hl
        refine lv_iload C.1 C.2.1 dX10_isGood_83 (lv_at hl 0 rfl) ?_
        refine lv_aload_n C.1 C.2.1 dX10_isGood_85 rfl (lv_at hl 3 rfl) ?_
        refine r_get C hK hP kw_X10 (ci := 8) rfl 0 4 (by decide) kf_X10_17 rfl rfl dX10_isGood_86 ?_
        refine r_iconst 1 C dX10_isGood_89 rfl ?_
        refine r_aldN C hK hP 2 rfl ⟨by omega, by omega⟩ dX10_isGood_90 ?_
        refine r_top (v' := nV (vk vv)) (by rw [hDR.2.1.1]) ?_
        refine r_cge 126 C dX10_isGood_91 rfl ⟨rgN (by omega), rgN (by omega)⟩ (fun h_60 => ?_) (fun h_60 => ?_)
        · skip
          refine lv_iload_n C.1 C.2.1 dX10_isGood_126 rfl (lv_at hl 1 rfl) ?_
          refine r_ieq 179 C dX10_isGood_127 rfl (rgN (by omega)) (fun h_61 => ?_) (fun h_61 => ?_)
          · skip
            refine lv_iload_n C.1 C.2.1 dX10_isGood_179 rfl (lv_at hl 1 rfl) ?_
            exact ret ((mtd, mws, mwd, mcs, mca, mbs, mba)) dX10_isGood_180 (nar_01 (by omega)) hS hP (by have hno : ¬ aw (vsg vv) (vk vv) (nu 0) (nu 1) (nu 2) = true := (by rcases hz with q | q; (exfalso; omega); exact q.2); obtain rfl : zz = 0 := (by omega); exact ⟨bI_z (by rw [gd_w (by omega)]; exact hno), fun q => by rw [gd_w (by omega)] at q; exact absurd q (hno), LK_r⟩)
          obtain ⟨hz1, hz2, hz3⟩ : zz = 1 ∧ (nu 0 ≤ 5 ∧ nu 1 ≤ 3 ∧ nu 2 ≤ 2 ∧ vk vv < 8) ∧ ∀ j, j < i → vsg vv j ≠ nu 0 + 6 * nu 1 + 24 * nu 2 := by rcases hz with q | q; exact q; (exfalso; omega)
          have haw0 : aw (vsg vv) (vk vv) (nu 0) (nu 1) (nu 2) = true := aw_of hz2 (fun j hj => hz3 j (by omega))
          refine lv_aload_n C.1 C.2.1 dX10_isGood_130 rfl (lv_at hl 3 rfl) ?_
          refine r_get C hK hP kw_X10 (ci := 8) rfl 0 5 (by decide) kf_X10_20 rfl rfl dX10_isGood_131 ?_
          refine r_bipush 16 C dX10_isGood_134 (by decide) ?_
          refine r_iconst 2 C dX10_isGood_136 rfl ?_
          refine lv_aload_n C.1 C.2.1 dX10_isGood_137 rfl (lv_at hl 3 rfl) ?_
          refine r_get C hK hP kw_X10 (ci := 8) rfl 0 4 (by decide) kf_X10_17 rfl rfl dX10_isGood_138 ?_
          refine r_iconst 1 C dX10_isGood_141 rfl ?_
          refine r_aldN C hK hP 2 rfl ⟨by omega, by omega⟩ dX10_isGood_142 ?_
          refine r_top (v' := nV (vk vv)) (by rw [hDR.2.1.1]) ?_
          refine r_mulN C dX10_isGood_143 ?_
          refine r_addN C dX10_isGood_144 ?_
          refine lv_iload_n C.1 C.2.1 dX10_isGood_145 rfl (lv_at hl 2 rfl) ?_
          refine r_astN C hK hP hD hS 3 rfl ⟨by omega, by omega⟩ dX10_isGood_146 (fun H locs hP hD hS => ?_)
          have hP : va_P g.1 vwCl [(mo0, .inr (8, [nV mL, .ref mA1, nV mAt, .ref mA3, .ref mA4, .ref mA5, .ref mA6, .ref mA7, .ref mA8, .ref mA9, .ref mA10, .ref mA11, .ref mA12, nV kz, nV dn, .ref mA15, .ref mA16, .ref mA17, mV mAb, mV mBe, .ref mA20, zV mCl])), (mA3, cN g 4 mtd), (mA4, cN g 2 mws), (mA5, cN g 32 (upN mwd (16 + (2 * (vk vv))) (((nu 0) + (6 * (nu 1))) + (24 * (nu 2))))), (mA6, cN g 2 mcs), (mA7, cN g 20 mca), (mA8, cN g 2 mbs), (mA9, cN g 10 mba), (mA20, cZ g 4 mgt)] H := hP
          have hD : va_D A [(mo0, .inr (8, [nV mL, .ref mA1, nV mAt, .ref mA3, .ref mA4, .ref mA5, .ref mA6, .ref mA7, .ref mA8, .ref mA9, .ref mA10, .ref mA11, .ref mA12, nV kz, nV dn, .ref mA15, .ref mA16, .ref mA17, mV mAb, mV mBe, .ref mA20, zV mCl])), (mA3, cN g 4 mtd), (mA4, cN g 2 mws), (mA5, cN g 32 (upN mwd (16 + (2 * (vk vv))) (((nu 0) + (6 * (nu 1))) + (24 * (nu 2))))), (mA6, cN g 2 mcs), (mA7, cN g 20 mca), (mA8, cN g 2 mbs), (mA9, cN g 10 mba), (mA20, cZ g 4 mgt)] := hD
          refine lv_aload_n C.1 C.2.1 dX10_isGood_147 rfl (lv_at hl 3 rfl) ?_
          refine r_get C hK hP kw_X10 (ci := 8) rfl 0 5 (by decide) kf_X10_20 rfl rfl dX10_isGood_148 ?_
          refine r_bipush 17 C dX10_isGood_151 (by decide) ?_
          refine r_iconst 2 C dX10_isGood_153 rfl ?_
          refine lv_aload_n C.1 C.2.1 dX10_isGood_154 rfl (lv_at hl 3 rfl) ?_
          refine r_get C hK hP kw_X10 (ci := 8) rfl 0 4 (by decide) kf_X10_17 rfl rfl dX10_isGood_155 ?_
          refine r_iconst 1 C dX10_isGood_158 rfl ?_
          refine r_aldN C hK hP 2 rfl ⟨by omega, by omega⟩ dX10_isGood_159 ?_
          refine r_top (v' := nV (vk vv)) (by rw [hDR.2.1.1]) ?_
          refine r_mulN C dX10_isGood_160 ?_
          refine r_addN C dX10_isGood_161 ?_
          refine lv_aload_n C.1 C.2.1 dX10_isGood_162 rfl (lv_at hl 3 rfl) ?_
          refine r_get C hK hP kw_X10 (ci := 8) rfl 0 20 (by decide) kf_X10_54 rfl rfl dX10_isGood_163 ?_
          refine r_iconst 3 C dX10_isGood_166 rfl ?_
          refine r_aldZ C hK hP 8 rfl ⟨by omega, by omega⟩ dX10_isGood_167 ?_
          refine r_top (v' := nV (nu 3)) (congrArg Value.int (congrArg iI (hnu 3 (by omega)))) ?_
          have hf_62 := hnb 3 (by omega)
          refine r_astN C hK hP hD hS 3 rfl ⟨by omega, by omega⟩ dX10_isGood_168 (fun H locs hP hD hS => ?_)
          have hP : va_P g.1 vwCl [(mo0, .inr (8, [nV mL, .ref mA1, nV mAt, .ref mA3, .ref mA4, .ref mA5, .ref mA6, .ref mA7, .ref mA8, .ref mA9, .ref mA10, .ref mA11, .ref mA12, nV kz, nV dn, .ref mA15, .ref mA16, .ref mA17, mV mAb, mV mBe, .ref mA20, zV mCl])), (mA3, cN g 4 mtd), (mA4, cN g 2 mws), (mA5, cN g 32 (upN (upN mwd (16 + (2 * (vk vv))) (((nu 0) + (6 * (nu 1))) + (24 * (nu 2)))) (17 + (2 * (vk vv))) (nu 3))), (mA6, cN g 2 mcs), (mA7, cN g 20 mca), (mA8, cN g 2 mbs), (mA9, cN g 10 mba), (mA20, cZ g 4 mgt)] H := hP
          have hD : va_D A [(mo0, .inr (8, [nV mL, .ref mA1, nV mAt, .ref mA3, .ref mA4, .ref mA5, .ref mA6, .ref mA7, .ref mA8, .ref mA9, .ref mA10, .ref mA11, .ref mA12, nV kz, nV dn, .ref mA15, .ref mA16, .ref mA17, mV mAb, mV mBe, .ref mA20, zV mCl])), (mA3, cN g 4 mtd), (mA4, cN g 2 mws), (mA5, cN g 32 (upN (upN mwd (16 + (2 * (vk vv))) (((nu 0) + (6 * (nu 1))) + (24 * (nu 2)))) (17 + (2 * (vk vv))) (nu 3))), (mA6, cN g 2 mcs), (mA7, cN g 20 mca), (mA8, cN g 2 mbs), (mA9, cN g 10 mba), (mA20, cZ g 4 mgt)] := hD
          refine lv_aload_n C.1 C.2.1 dX10_isGood_169 rfl (lv_at hl 3 rfl) ?_
          refine r_get C hK hP kw_X10 (ci := 8) rfl 0 4 (by decide) kf_X10_17 rfl rfl dX10_isGood_170 ?_
          refine r_iconst 1 C dX10_isGood_173 rfl ?_
          refine lv_dup2_11 C.1 C.2.1 dX10_isGood_174 rfl rfl ?_
          refine r_aldN C hK hP 2 rfl ⟨by omega, by omega⟩ dX10_isGood_175 ?_
          refine r_top (v' := nV (vk vv)) (by rw [hDR.2.1.1]) ?_
          refine r_iconst 1 C dX10_isGood_176 rfl ?_
          refine r_addN C dX10_isGood_177 ?_
          refine r_astN C hK hP hD hS 2 rfl ⟨by omega, by omega⟩ dX10_isGood_178 (fun H locs hP hD hS => ?_)
          have hP : va_P g.1 vwCl [(mo0, .inr (8, [nV mL, .ref mA1, nV mAt, .ref mA3, .ref mA4, .ref mA5, .ref mA6, .ref mA7, .ref mA8, .ref mA9, .ref mA10, .ref mA11, .ref mA12, nV kz, nV dn, .ref mA15, .ref mA16, .ref mA17, mV mAb, mV mBe, .ref mA20, zV mCl])), (mA3, cN g 4 mtd), (mA4, cN g 2 (upN mws 1 ((vk vv) + 1))), (mA5, cN g 32 (upN (upN mwd (16 + (2 * (vk vv))) (((nu 0) + (6 * (nu 1))) + (24 * (nu 2)))) (17 + (2 * (vk vv))) (nu 3))), (mA6, cN g 2 mcs), (mA7, cN g 20 mca), (mA8, cN g 2 mbs), (mA9, cN g 10 mba), (mA20, cZ g 4 mgt)] H := hP
          have hD : va_D A [(mo0, .inr (8, [nV mL, .ref mA1, nV mAt, .ref mA3, .ref mA4, .ref mA5, .ref mA6, .ref mA7, .ref mA8, .ref mA9, .ref mA10, .ref mA11, .ref mA12, nV kz, nV dn, .ref mA15, .ref mA16, .ref mA17, mV mAb, mV mBe, .ref mA20, zV mCl])), (mA3, cN g 4 mtd), (mA4, cN g 2 (upN mws 1 ((vk vv) + 1))), (mA5, cN g 32 (upN (upN mwd (16 + (2 * (vk vv))) (((nu 0) + (6 * (nu 1))) + (24 * (nu 2)))) (17 + (2 * (vk vv))) (nu 3))), (mA6, cN g 2 mcs), (mA7, cN g 20 mca), (mA8, cN g 2 mbs), (mA9, cN g 10 mba), (mA20, cZ g 4 mgt)] := hD
          refine lv_iload_n C.1 C.2.1 dX10_isGood_179 rfl (lv_at hl 1 rfl) ?_
          exact ret ((mtd, upN mws 1 ((vk vv) + 1), upN (upN mwd (16 + (2 * (vk vv))) (((nu 0) + (6 * (nu 1))) + (24 * (nu 2)))) (17 + (2 * (vk vv))) (nu 3), mcs, mca, mbs, mba)) dX10_isGood_180 (nar_01 (by omega)) hS hP (by have haw : aw (vsg vv) (vk vv) (nu 0) (nu 1) (nu 2) = true := haw0; obtain rfl : zz = 1 := (by omega); exact ⟨bI_1 (by rw [gd_w (by omega)]; exact haw), fun q => by rw [gd_w (by omega)]; exact DR_W hDR haw, LK_W⟩)
        refine lv_iload_n C.1 C.2.1 dX10_isGood_94 rfl (lv_at hl 1 rfl) ?_
        refine r_ieq 126 C dX10_isGood_95 rfl (rgN (by omega)) (fun h_63 => ?_) (fun h_63 => ?_)
        · skip
          refine lv_iload_n C.1 C.2.1 dX10_isGood_126 rfl (lv_at hl 1 rfl) ?_
          refine r_ieq 179 C dX10_isGood_127 rfl (rgN (by omega)) (fun h_64 => ?_) (fun h_64 => ?_)
          rotate_left
          · exact absurd h_64 (by omega)
          refine lv_iload_n C.1 C.2.1 dX10_isGood_179 rfl (lv_at hl 1 rfl) ?_
          exact ret ((mtd, mws, mwd, mcs, mca, mbs, mba)) dX10_isGood_180 (nar_01 (by omega)) hS hP (by have hno : ¬ aw (vsg vv) (vk vv) (nu 0) (nu 1) (nu 2) = true := (by rcases hz with q | q; (exfalso; omega); exact q.2); obtain rfl : zz = 0 := (by omega); exact ⟨bI_z (by rw [gd_w (by omega)]; exact hno), fun q => by rw [gd_w (by omega)] at q; exact absurd q (hno), LK_r⟩)
        obtain ⟨hz1, hz2, hz3⟩ : zz = 1 ∧ (nu 0 ≤ 5 ∧ nu 1 ≤ 3 ∧ nu 2 ≤ 2 ∧ vk vv < 8) ∧ ∀ j, j < i → vsg vv j ≠ nu 0 + 6 * nu 1 + 24 * nu 2 := by rcases hz with q | q; exact q; (exfalso; omega)
        refine lv_aload_n C.1 C.2.1 dX10_isGood_98 rfl (lv_at hl 3 rfl) ?_
        refine r_get C hK hP kw_X10 (ci := 8) rfl 0 5 (by decide) kf_X10_20 rfl rfl dX10_isGood_99 ?_
        refine r_bipush 16 C dX10_isGood_102 (by decide) ?_
        refine r_iconst 2 C dX10_isGood_104 rfl ?_
        refine lv_iload C.1 C.2.1 dX10_isGood_105 (lv_at hl 0 rfl) ?_
        refine r_mulN C dX10_isGood_107 ?_
        refine r_addN C dX10_isGood_108 ?_
        refine r_aldN C hK hP 3 rfl ⟨by omega, by omega⟩ dX10_isGood_109 ?_
        refine r_top (v' := nV (vsg vv i)) (by rw [(hDR.2.1.2 i (by omega)).1]) ?_
        have hf_65 := hsg i
        refine lv_iload_n C.1 C.2.1 dX10_isGood_110 rfl (lv_at hl 2 rfl) ?_
        refine r_ceq 118 C dX10_isGood_111 rfl ⟨rgN (by omega), rgN (by omega)⟩ (fun h_66 => ?_) (fun h_66 => ?_)
        · skip
          refine r_iconst 0 C dX10_isGood_118 rfl ?_
          refine lv_istore_n (lv' := [(3, nV 0), (4, nV i), (2, nV (((nu 0) + (6 * (nu 1))) + (24 * (nu 2)))), (0, .ref mo0), (1, zV ll)]) C.1 C.2.1 dX10_isGood_119 rfl hl (by decide) rfl (fun ls hl => ?_)
          refine r_incN (k := 1) (n := 1) [(4, nV (i + 1)), (3, nV 0), (2, nV (((nu 0) + (6 * (nu 1))) + (24 * (nu 2)))), (0, .ref mo0), (1, zV ll)] C dX10_isGood_120 hl rfl rfl (by decide) rfl (fun ls hl => ?_)
          refine r_goto 83 C dX10_isGood_123 rfl ?_
          exact ih_83 (i + 1) 0 _ _ _ (by first | assumption | omega) (by first | assumption | omega) (Or.inr ⟨rfl, aw_no (j := i) (by omega) (by omega)⟩) (by omega) hP hD hS (lv_sub hl [0, 1, 2, 3, 4] rfl)
        refine r_iconst 1 C dX10_isGood_114 rfl ?_
        refine r_goto 119 C dX10_isGood_115 rfl ?_
        refine lv_istore_n (lv' := [(3, nV 1), (4, nV i), (2, nV (((nu 0) + (6 * (nu 1))) + (24 * (nu 2)))), (0, .ref mo0), (1, zV ll)]) C.1 C.2.1 dX10_isGood_119 rfl hl (by decide) rfl (fun ls hl => ?_)
        refine r_incN (k := 1) (n := 1) [(4, nV (i + 1)), (3, nV 1), (2, nV (((nu 0) + (6 * (nu 1))) + (24 * (nu 2)))), (0, .ref mo0), (1, zV ll)] C dX10_isGood_120 hl rfl rfl (by decide) rfl (fun ls hl => ?_)
        refine r_goto 83 C dX10_isGood_123 rfl ?_
        exact ih_83 (i + 1) 1 _ _ _ (by first | assumption | omega) (by first | assumption | omega) (Or.inl ⟨rfl, hz2, fun j hj => by by_cases q : j = i; (rw [q]; omega); exact hz3 j (by omega)⟩) (by omega) hP hD hS (lv_sub hl [0, 1, 2, 3, 4] rfl)
    exact L83 (vk vv - 0 + 1) 0 0 _ _ _ (by first | assumption | omega) (by first | assumption | omega) (Or.inr ⟨rfl, aw_lim (by omega)⟩) (Nat.lt_succ_self _) hP hD hS (lv_sub hl [0, 1, 2, 3, 4] rfl)
  refine r_iconst 1 C dX10_isGood_74 rfl ?_
  refine r_goto 79 C dX10_isGood_75 rfl ?_
  refine lv_istore_n (lv' := [(3, nV 1), (2, nV (((nu 0) + (6 * (nu 1))) + (24 * (nu 2)))), (0, .ref mo0), (1, zV ll)]) C.1 C.2.1 dX10_isGood_79 rfl hl (by decide) rfl (fun ls hl => ?_)
  refine r_iconst 0 C dX10_isGood_80 rfl ?_
  refine lv_istore (lv' := [(4, nV 0), (3, nV 1), (2, nV (((nu 0) + (6 * (nu 1))) + (24 * (nu 2)))), (0, .ref mo0), (1, zV ll)]) C.1 C.2.1 dX10_isGood_81 hl (by decide) rfl (fun ls hl => ?_)
  have L83 : ∀ (n_83 : Nat) (i : Nat) (zz : Nat) (H : Heap) (locs : List Loc) (ls : Array Slot) (hi : i ≤ vk vv) (hzb : zz ≤ 1) (hz : (zz = 1 ∧ (nu 0 ≤ 5 ∧ nu 1 ≤ 3 ∧ nu 2 ≤ 2 ∧ vk vv < 8) ∧ ∀ j, j < i → vsg vv j ≠ nu 0 + 6 * nu 1 + 24 * nu 2) ∨ (zz = 0 ∧ ¬ aw (vsg vv) (vk vv) (nu 0) (nu 1) (nu 2) = true)) (hm : vk vv - i < n_83) (hP : va_P g.1 vwCl [(mo0, .inr (8, [nV mL, .ref mA1, nV mAt, .ref mA3, .ref mA4, .ref mA5, .ref mA6, .ref mA7, .ref mA8, .ref mA9, .ref mA10, .ref mA11, .ref mA12, nV kz, nV dn, .ref mA15, .ref mA16, .ref mA17, mV mAb, mV mBe, .ref mA20, zV mCl])), (mA3, cN g 4 mtd), (mA4, cN g 2 mws), (mA5, cN g 32 mwd), (mA6, cN g 2 mcs), (mA7, cN g 20 mca), (mA8, cN g 2 mbs), (mA9, cN g 10 mba), (mA20, cZ g 4 mgt)] H) (hD : va_D A [(mo0, .inr (8, [nV mL, .ref mA1, nV mAt, .ref mA3, .ref mA4, .ref mA5, .ref mA6, .ref mA7, .ref mA8, .ref mA9, .ref mA10, .ref mA11, .ref mA12, nV kz, nV dn, .ref mA15, .ref mA16, .ref mA17, mV mAb, mV mBe, .ref mA20, zV mCl])), (mA3, cN g 4 mtd), (mA4, cN g 2 mws), (mA5, cN g 32 mwd), (mA6, cN g 2 mcs), (mA7, cN g 20 mca), (mA8, cN g 2 mbs), (mA9, cN g 10 mba), (mA20, cZ g 4 mgt)]) (hS : va_S A s.heap H locs) (hl : lv_has ls 5 [(4, nV i), (3, nV zz), (2, nV (((nu 0) + (6 * (nu 1))) + (24 * (nu 2)))), (0, .ref mo0), (1, zV ll)]), W p l e (rD 3) s m args below meth c H locs 0 0 Q (F0 m 83 ls []) := by
    intro n_83
    induction n_83 with
    | zero => intro i zz H locs ls hi hzb hz hm hP hD hS hl; exact absurd hm (Nat.not_lt_zero _)
    | succ n_83 ih_83 =>
      intro i zz H locs ls hi hzb hz hm hP hD hS hl
      refine lv_iload C.1 C.2.1 dX10_isGood_83 (lv_at hl 0 rfl) ?_
      refine lv_aload_n C.1 C.2.1 dX10_isGood_85 rfl (lv_at hl 3 rfl) ?_
      refine r_get C hK hP kw_X10 (ci := 8) rfl 0 4 (by decide) kf_X10_17 rfl rfl dX10_isGood_86 ?_
      refine r_iconst 1 C dX10_isGood_89 rfl ?_
      refine r_aldN C hK hP 2 rfl ⟨by omega, by omega⟩ dX10_isGood_90 ?_
      refine r_top (v' := nV (vk vv)) (by rw [hDR.2.1.1]) ?_
      refine r_cge 126 C dX10_isGood_91 rfl ⟨rgN (by omega), rgN (by omega)⟩ (fun h_67 => ?_) (fun h_67 => ?_)
      · skip
        refine lv_iload_n C.1 C.2.1 dX10_isGood_126 rfl (lv_at hl 1 rfl) ?_
        refine r_ieq 179 C dX10_isGood_127 rfl (rgN (by omega)) (fun h_68 => ?_) (fun h_68 => ?_)
        · skip
          refine lv_iload_n C.1 C.2.1 dX10_isGood_179 rfl (lv_at hl 1 rfl) ?_
          exact ret ((mtd, mws, mwd, mcs, mca, mbs, mba)) dX10_isGood_180 (nar_01 (by omega)) hS hP (by have hno : ¬ aw (vsg vv) (vk vv) (nu 0) (nu 1) (nu 2) = true := (by rcases hz with q | q; (exfalso; omega); exact q.2); obtain rfl : zz = 0 := (by omega); exact ⟨bI_z (by rw [gd_w (by omega)]; exact hno), fun q => by rw [gd_w (by omega)] at q; exact absurd q (hno), LK_r⟩)
        obtain ⟨hz1, hz2, hz3⟩ : zz = 1 ∧ (nu 0 ≤ 5 ∧ nu 1 ≤ 3 ∧ nu 2 ≤ 2 ∧ vk vv < 8) ∧ ∀ j, j < i → vsg vv j ≠ nu 0 + 6 * nu 1 + 24 * nu 2 := by rcases hz with q | q; exact q; (exfalso; omega)
        have haw0 : aw (vsg vv) (vk vv) (nu 0) (nu 1) (nu 2) = true := aw_of hz2 (fun j hj => hz3 j (by omega))
        refine lv_aload_n C.1 C.2.1 dX10_isGood_130 rfl (lv_at hl 3 rfl) ?_
        refine r_get C hK hP kw_X10 (ci := 8) rfl 0 5 (by decide) kf_X10_20 rfl rfl dX10_isGood_131 ?_
        refine r_bipush 16 C dX10_isGood_134 (by decide) ?_
        refine r_iconst 2 C dX10_isGood_136 rfl ?_
        refine lv_aload_n C.1 C.2.1 dX10_isGood_137 rfl (lv_at hl 3 rfl) ?_
        refine r_get C hK hP kw_X10 (ci := 8) rfl 0 4 (by decide) kf_X10_17 rfl rfl dX10_isGood_138 ?_
        refine r_iconst 1 C dX10_isGood_141 rfl ?_
        refine r_aldN C hK hP 2 rfl ⟨by omega, by omega⟩ dX10_isGood_142 ?_
        refine r_top (v' := nV (vk vv)) (by rw [hDR.2.1.1]) ?_
        refine r_mulN C dX10_isGood_143 ?_
        refine r_addN C dX10_isGood_144 ?_
        refine lv_iload_n C.1 C.2.1 dX10_isGood_145 rfl (lv_at hl 2 rfl) ?_
        refine r_astN C hK hP hD hS 3 rfl ⟨by omega, by omega⟩ dX10_isGood_146 (fun H locs hP hD hS => ?_)
        have hP : va_P g.1 vwCl [(mo0, .inr (8, [nV mL, .ref mA1, nV mAt, .ref mA3, .ref mA4, .ref mA5, .ref mA6, .ref mA7, .ref mA8, .ref mA9, .ref mA10, .ref mA11, .ref mA12, nV kz, nV dn, .ref mA15, .ref mA16, .ref mA17, mV mAb, mV mBe, .ref mA20, zV mCl])), (mA3, cN g 4 mtd), (mA4, cN g 2 mws), (mA5, cN g 32 (upN mwd (16 + (2 * (vk vv))) (((nu 0) + (6 * (nu 1))) + (24 * (nu 2))))), (mA6, cN g 2 mcs), (mA7, cN g 20 mca), (mA8, cN g 2 mbs), (mA9, cN g 10 mba), (mA20, cZ g 4 mgt)] H := hP
        have hD : va_D A [(mo0, .inr (8, [nV mL, .ref mA1, nV mAt, .ref mA3, .ref mA4, .ref mA5, .ref mA6, .ref mA7, .ref mA8, .ref mA9, .ref mA10, .ref mA11, .ref mA12, nV kz, nV dn, .ref mA15, .ref mA16, .ref mA17, mV mAb, mV mBe, .ref mA20, zV mCl])), (mA3, cN g 4 mtd), (mA4, cN g 2 mws), (mA5, cN g 32 (upN mwd (16 + (2 * (vk vv))) (((nu 0) + (6 * (nu 1))) + (24 * (nu 2))))), (mA6, cN g 2 mcs), (mA7, cN g 20 mca), (mA8, cN g 2 mbs), (mA9, cN g 10 mba), (mA20, cZ g 4 mgt)] := hD
        refine lv_aload_n C.1 C.2.1 dX10_isGood_147 rfl (lv_at hl 3 rfl) ?_
        refine r_get C hK hP kw_X10 (ci := 8) rfl 0 5 (by decide) kf_X10_20 rfl rfl dX10_isGood_148 ?_
        refine r_bipush 17 C dX10_isGood_151 (by decide) ?_
        refine r_iconst 2 C dX10_isGood_153 rfl ?_
        refine lv_aload_n C.1 C.2.1 dX10_isGood_154 rfl (lv_at hl 3 rfl) ?_
        refine r_get C hK hP kw_X10 (ci := 8) rfl 0 4 (by decide) kf_X10_17 rfl rfl dX10_isGood_155 ?_
        refine r_iconst 1 C dX10_isGood_158 rfl ?_
        refine r_aldN C hK hP 2 rfl ⟨by omega, by omega⟩ dX10_isGood_159 ?_
        refine r_top (v' := nV (vk vv)) (by rw [hDR.2.1.1]) ?_
        refine r_mulN C dX10_isGood_160 ?_
        refine r_addN C dX10_isGood_161 ?_
        refine lv_aload_n C.1 C.2.1 dX10_isGood_162 rfl (lv_at hl 3 rfl) ?_
        refine r_get C hK hP kw_X10 (ci := 8) rfl 0 20 (by decide) kf_X10_54 rfl rfl dX10_isGood_163 ?_
        refine r_iconst 3 C dX10_isGood_166 rfl ?_
        refine r_aldZ C hK hP 8 rfl ⟨by omega, by omega⟩ dX10_isGood_167 ?_
        refine r_top (v' := nV (nu 3)) (congrArg Value.int (congrArg iI (hnu 3 (by omega)))) ?_
        have hf_69 := hnb 3 (by omega)
        refine r_astN C hK hP hD hS 3 rfl ⟨by omega, by omega⟩ dX10_isGood_168 (fun H locs hP hD hS => ?_)
        have hP : va_P g.1 vwCl [(mo0, .inr (8, [nV mL, .ref mA1, nV mAt, .ref mA3, .ref mA4, .ref mA5, .ref mA6, .ref mA7, .ref mA8, .ref mA9, .ref mA10, .ref mA11, .ref mA12, nV kz, nV dn, .ref mA15, .ref mA16, .ref mA17, mV mAb, mV mBe, .ref mA20, zV mCl])), (mA3, cN g 4 mtd), (mA4, cN g 2 mws), (mA5, cN g 32 (upN (upN mwd (16 + (2 * (vk vv))) (((nu 0) + (6 * (nu 1))) + (24 * (nu 2)))) (17 + (2 * (vk vv))) (nu 3))), (mA6, cN g 2 mcs), (mA7, cN g 20 mca), (mA8, cN g 2 mbs), (mA9, cN g 10 mba), (mA20, cZ g 4 mgt)] H := hP
        have hD : va_D A [(mo0, .inr (8, [nV mL, .ref mA1, nV mAt, .ref mA3, .ref mA4, .ref mA5, .ref mA6, .ref mA7, .ref mA8, .ref mA9, .ref mA10, .ref mA11, .ref mA12, nV kz, nV dn, .ref mA15, .ref mA16, .ref mA17, mV mAb, mV mBe, .ref mA20, zV mCl])), (mA3, cN g 4 mtd), (mA4, cN g 2 mws), (mA5, cN g 32 (upN (upN mwd (16 + (2 * (vk vv))) (((nu 0) + (6 * (nu 1))) + (24 * (nu 2)))) (17 + (2 * (vk vv))) (nu 3))), (mA6, cN g 2 mcs), (mA7, cN g 20 mca), (mA8, cN g 2 mbs), (mA9, cN g 10 mba), (mA20, cZ g 4 mgt)] := hD
        refine lv_aload_n C.1 C.2.1 dX10_isGood_169 rfl (lv_at hl 3 rfl) ?_
        refine r_get C hK hP kw_X10 (ci := 8) rfl 0 4 (by decide) kf_X10_17 rfl rfl dX10_isGood_170 ?_
        refine r_iconst 1 C dX10_isGood_173 rfl ?_
        refine lv_dup2_11 C.1 C.2.1 dX10_isGood_174 rfl rfl ?_
        refine r_aldN C hK hP 2 rfl ⟨by omega, by omega⟩ dX10_isGood_175 ?_
        refine r_top (v' := nV (vk vv)) (by rw [hDR.2.1.1]) ?_
        refine r_iconst 1 C dX10_isGood_176 rfl ?_
        refine r_addN C dX10_isGood_177 ?_
        refine r_astN C hK hP hD hS 2 rfl ⟨by omega, by omega⟩ dX10_isGood_178 (fun H locs hP hD hS => ?_)
        have hP : va_P g.1 vwCl [(mo0, .inr (8, [nV mL, .ref mA1, nV mAt, .ref mA3, .ref mA4, .ref mA5, .ref mA6, .ref mA7, .ref mA8, .ref mA9, .ref mA10, .ref mA11, .ref mA12, nV kz, nV dn, .ref mA15, .ref mA16, .ref mA17, mV mAb, mV mBe, .ref mA20, zV mCl])), (mA3, cN g 4 mtd), (mA4, cN g 2 (upN mws 1 ((vk vv) + 1))), (mA5, cN g 32 (upN (upN mwd (16 + (2 * (vk vv))) (((nu 0) + (6 * (nu 1))) + (24 * (nu 2)))) (17 + (2 * (vk vv))) (nu 3))), (mA6, cN g 2 mcs), (mA7, cN g 20 mca), (mA8, cN g 2 mbs), (mA9, cN g 10 mba), (mA20, cZ g 4 mgt)] H := hP
        have hD : va_D A [(mo0, .inr (8, [nV mL, .ref mA1, nV mAt, .ref mA3, .ref mA4, .ref mA5, .ref mA6, .ref mA7, .ref mA8, .ref mA9, .ref mA10, .ref mA11, .ref mA12, nV kz, nV dn, .ref mA15, .ref mA16, .ref mA17, mV mAb, mV mBe, .ref mA20, zV mCl])), (mA3, cN g 4 mtd), (mA4, cN g 2 (upN mws 1 ((vk vv) + 1))), (mA5, cN g 32 (upN (upN mwd (16 + (2 * (vk vv))) (((nu 0) + (6 * (nu 1))) + (24 * (nu 2)))) (17 + (2 * (vk vv))) (nu 3))), (mA6, cN g 2 mcs), (mA7, cN g 20 mca), (mA8, cN g 2 mbs), (mA9, cN g 10 mba), (mA20, cZ g 4 mgt)] := hD
        refine lv_iload_n C.1 C.2.1 dX10_isGood_179 rfl (lv_at hl 1 rfl) ?_
        exact ret ((mtd, upN mws 1 ((vk vv) + 1), upN (upN mwd (16 + (2 * (vk vv))) (((nu 0) + (6 * (nu 1))) + (24 * (nu 2)))) (17 + (2 * (vk vv))) (nu 3), mcs, mca, mbs, mba)) dX10_isGood_180 (nar_01 (by omega)) hS hP (by have haw : aw (vsg vv) (vk vv) (nu 0) (nu 1) (nu 2) = true := haw0; obtain rfl : zz = 1 := (by omega); exact ⟨bI_1 (by rw [gd_w (by omega)]; exact haw), fun q => by rw [gd_w (by omega)]; exact DR_W hDR haw, LK_W⟩)
      refine lv_iload_n C.1 C.2.1 dX10_isGood_94 rfl (lv_at hl 1 rfl) ?_
      refine r_ieq 126 C dX10_isGood_95 rfl (rgN (by omega)) (fun h_70 => ?_) (fun h_70 => ?_)
      · skip
        refine lv_iload_n C.1 C.2.1 dX10_isGood_126 rfl (lv_at hl 1 rfl) ?_
        refine r_ieq 179 C dX10_isGood_127 rfl (rgN (by omega)) (fun h_71 => ?_) (fun h_71 => ?_)
        rotate_left
        · exact absurd h_71 (by omega)
        refine lv_iload_n C.1 C.2.1 dX10_isGood_179 rfl (lv_at hl 1 rfl) ?_
        exact ret ((mtd, mws, mwd, mcs, mca, mbs, mba)) dX10_isGood_180 (nar_01 (by omega)) hS hP (by have hno : ¬ aw (vsg vv) (vk vv) (nu 0) (nu 1) (nu 2) = true := (by rcases hz with q | q; (exfalso; omega); exact q.2); obtain rfl : zz = 0 := (by omega); exact ⟨bI_z (by rw [gd_w (by omega)]; exact hno), fun q => by rw [gd_w (by omega)] at q; exact absurd q (hno), LK_r⟩)
      obtain ⟨hz1, hz2, hz3⟩ : zz = 1 ∧ (nu 0 ≤ 5 ∧ nu 1 ≤ 3 ∧ nu 2 ≤ 2 ∧ vk vv < 8) ∧ ∀ j, j < i → vsg vv j ≠ nu 0 + 6 * nu 1 + 24 * nu 2 := by rcases hz with q | q; exact q; (exfalso; omega)
      refine lv_aload_n C.1 C.2.1 dX10_isGood_98 rfl (lv_at hl 3 rfl) ?_
      refine r_get C hK hP kw_X10 (ci := 8) rfl 0 5 (by decide) kf_X10_20 rfl rfl dX10_isGood_99 ?_
      refine r_bipush 16 C dX10_isGood_102 (by decide) ?_
      refine r_iconst 2 C dX10_isGood_104 rfl ?_
      refine lv_iload C.1 C.2.1 dX10_isGood_105 (lv_at hl 0 rfl) ?_
      refine r_mulN C dX10_isGood_107 ?_
      refine r_addN C dX10_isGood_108 ?_
      refine r_aldN C hK hP 3 rfl ⟨by omega, by omega⟩ dX10_isGood_109 ?_
      refine r_top (v' := nV (vsg vv i)) (by rw [(hDR.2.1.2 i (by omega)).1]) ?_
      have hf_72 := hsg i
      refine lv_iload_n C.1 C.2.1 dX10_isGood_110 rfl (lv_at hl 2 rfl) ?_
      refine r_ceq 118 C dX10_isGood_111 rfl ⟨rgN (by omega), rgN (by omega)⟩ (fun h_73 => ?_) (fun h_73 => ?_)
      · skip
        refine r_iconst 0 C dX10_isGood_118 rfl ?_
        refine lv_istore_n (lv' := [(3, nV 0), (4, nV i), (2, nV (((nu 0) + (6 * (nu 1))) + (24 * (nu 2)))), (0, .ref mo0), (1, zV ll)]) C.1 C.2.1 dX10_isGood_119 rfl hl (by decide) rfl (fun ls hl => ?_)
        refine r_incN (k := 1) (n := 1) [(4, nV (i + 1)), (3, nV 0), (2, nV (((nu 0) + (6 * (nu 1))) + (24 * (nu 2)))), (0, .ref mo0), (1, zV ll)] C dX10_isGood_120 hl rfl rfl (by decide) rfl (fun ls hl => ?_)
        refine r_goto 83 C dX10_isGood_123 rfl ?_
        exact ih_83 (i + 1) 0 _ _ _ (by first | assumption | omega) (by first | assumption | omega) (Or.inr ⟨rfl, aw_no (j := i) (by omega) (by omega)⟩) (by omega) hP hD hS (lv_sub hl [0, 1, 2, 3, 4] rfl)
      refine r_iconst 1 C dX10_isGood_114 rfl ?_
      refine r_goto 119 C dX10_isGood_115 rfl ?_
      refine lv_istore_n (lv' := [(3, nV 1), (4, nV i), (2, nV (((nu 0) + (6 * (nu 1))) + (24 * (nu 2)))), (0, .ref mo0), (1, zV ll)]) C.1 C.2.1 dX10_isGood_119 rfl hl (by decide) rfl (fun ls hl => ?_)
      refine r_incN (k := 1) (n := 1) [(4, nV (i + 1)), (3, nV 1), (2, nV (((nu 0) + (6 * (nu 1))) + (24 * (nu 2)))), (0, .ref mo0), (1, zV ll)] C dX10_isGood_120 hl rfl rfl (by decide) rfl (fun ls hl => ?_)
      refine r_goto 83 C dX10_isGood_123 rfl ?_
      exact ih_83 (i + 1) 1 _ _ _ (by first | assumption | omega) (by first | assumption | omega) (Or.inl ⟨rfl, hz2, fun j hj => by by_cases q : j = i; (rw [q]; omega); exact hz3 j (by omega)⟩) (by omega) hP hD hS (lv_sub hl [0, 1, 2, 3, 4] rfl)
  exact L83 (vk vv - 0 + 1) 0 1 _ _ _ (by first | assumption | omega) (by first | assumption | omega) (Or.inl ⟨rfl, ⟨by omega, by omega, by omega, by omega⟩, fun j hj => by omega⟩) (Nat.lt_succ_self _) hP hD hS (lv_sub hl [0, 1, 2, 3, 4] rfl)
