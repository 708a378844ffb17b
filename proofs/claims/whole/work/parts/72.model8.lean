set_option maxHeartbeats 4000000 in
set_option maxRecDepth 100000 in
theorem c_X10_isApart (l : Launch) (g : GG) (mo0 : Nat) (mA1 : Nat) (mA3 : Nat) (mA4 : Nat) (mA5 : Nat) (mA6 : Nat) (mA7 : Nat) (mA8 : Nat) (mA9 : Nat) (mA10 : Nat) (mA11 : Nat) (mA12 : Nat) (mA15 : Nat) (mA16 : Nat) (mA17 : Nat) (mA20 : Nat) (mL : Nat) (mAt : Nat) (kz : Nat) (dn : Nat) (mAb : Nat) (mBe : Nat) (mCl : Int) (mre : Nat → Bool) (SS : Nat → Nat → Bool) (x : Nat) (y : Nat) (hre : ∀ x t, x < 72 → t < 72 → mre (72 * x + t) = SS x t) (hx : x < 72) (hy : y < 72) : ROi g l yX10_isApart cX10_isApart 5 (some .boolean) 1 [(mo0, .inr (8, [nV mL, .ref mA1, nV mAt, .ref mA3, .ref mA4, .ref mA5, .ref mA6, .ref mA7, .ref mA8, .ref mA9, .ref mA10, .ref mA11, .ref mA12, nV kz, nV dn, .ref mA15, .ref mA16, .ref mA17, mV mAb, mV mBe, .ref mA20, zV mCl])), (mA16, cO g 5184 mre)] [.ref mo0, nV x, nV y] (fun r => r = bI (¬ mtB (SS x) (SS y) 72 = true)) := by
  refine ro_startZ (by decide +kernel) (Nat.le_of_ble_eq_true rfl) ?_
  intro p e s m args below meth c Q ls C hK hP ret hl
  have C : CT p s m args meth c cX10_isApart RX10 5 := C
  have hl : lv_has ls 5 [(0, .ref mo0), (1, nV x), (2, nV y)] := hl
  refine r_iconst 1 C dX10_isApart_0 rfl ?_
  refine lv_istore_n (lv' := [(3, nV 1), (0, .ref mo0), (1, nV x), (2, nV y)]) C.1 C.2.1 dX10_isApart_1 rfl hl (by decide) rfl (fun ls hl => ?_)
  refine r_iconst 0 C dX10_isApart_2 rfl ?_
  refine lv_istore (lv' := [(4, nV 0), (3, nV 1), (0, .ref mo0), (1, nV x), (2, nV y)]) C.1 C.2.1 dX10_isApart_3 hl (by decide) rfl (fun ls hl => ?_)
  have L5 : ∀ (n_5 : Nat) (i : Nat) (zz : Nat) (ls : Array Slot) (hi : i ≤ 72) (hz : zz = if mtB (SS x) (SS y) i = true then 0 else 1) (hm : 72 - i < n_5) (hl : lv_has ls 5 [(4, nV i), (3, nV zz), (0, .ref mo0), (1, nV x), (2, nV y)]), W p l e (rD 1) s m args below meth c s.heap [] 0 0 Q (F0 m 5 ls []) := by
    intro n_5
    induction n_5 with
    | zero => intro i zz ls hi hz hm hl; exact absurd hm (Nat.not_lt_zero _)
    | succ n_5 ih_5 =>
      intro i zz ls hi hz hm hl
      refine lv_iload C.1 C.2.1 dX10_isApart_5 (lv_at hl 0 rfl) ?_
      refine r_bipush 72 C dX10_isApart_7 (by decide) ?_
      refine r_cge 58 C dX10_isApart_9 rfl ⟨rgN (by omega), rgN (by decide)⟩ (fun h_1 => ?_) (fun h_1 => ?_)
      · skip
        refine lv_iload_n C.1 C.2.1 dX10_isApart_58 rfl (lv_at hl 1 rfl) ?_
        exact ret dX10_isApart_59 (nar_01 (by rw [hz]; split <;> omega)) (by rw [show i = 72 by omega] at hz; by_cases w : mtB (SS x) (SS y) 72 = true; (rw [if_pos w] at hz; rw [hz]; exact bI_z (fun q => q w)); (rw [if_neg w] at hz; rw [hz]; exact bI_1 w))
      have hzb : zz ≤ 1 := by rw [hz]; split <;> omega
      refine lv_iload_n C.1 C.2.1 dX10_isApart_12 rfl (lv_at hl 1 rfl) ?_
      refine r_ieq 50 C dX10_isApart_13 rfl (rgN (by omega)) (fun gz => ?_) (fun gz => ?_)
      · skip
        refine r_iconst 0 C dX10_isApart_50 rfl ?_
        refine lv_istore_n (lv' := [(3, nV 0), (4, nV i), (0, .ref mo0), (1, nV x), (2, nV y)]) C.1 C.2.1 dX10_isApart_51 rfl hl (by decide) rfl (fun ls hl => ?_)
        refine r_incN (k := 1) (n := 1) [(4, nV (i + 1)), (3, nV 0), (0, .ref mo0), (1, nV x), (2, nV y)] C dX10_isApart_52 hl rfl rfl (by decide) rfl (fun ls hl => ?_)
        refine r_goto 5 C dX10_isApart_55 rfl ?_
        exact ih_5 (i + 1) 0 _ (by first | assumption | omega) (by show _ = if (mtB (SS x) (SS y) i || (SS x i && SS y i)) = true then 0 else 1; have q : mtB (SS x) (SS y) i = true := (by by_cases w : mtB (SS x) (SS y) i = true; exact w; rw [if_neg w] at hz; omega); rw [q]; rfl) (by omega) (lv_sub hl [0, 1, 2, 3, 4] rfl)
      have e1 : mre ((72 * x) + i) = SS x i := hre x i hx (by omega)
      have e2 : mre ((72 * y) + i) = SS y i := hre y i hy (by omega)
      refine lv_aload_n C.1 C.2.1 dX10_isApart_16 rfl (lv_at hl 2 rfl) ?_
      refine r_get C hK hP kw_X10 (ci := 8) rfl 0 16 (by decide) kf_X10_47 rfl rfl dX10_isApart_17 ?_
      refine r_bipush 72 C dX10_isApart_20 (by decide) ?_
      refine lv_iload_n C.1 C.2.1 dX10_isApart_22 rfl (lv_at hl 3 rfl) ?_
      refine r_mulN C dX10_isApart_23 ?_
      refine lv_iload C.1 C.2.1 dX10_isApart_24 (lv_at hl 0 rfl) ?_
      refine r_addN C dX10_isApart_26 ?_
      refine r_aldO C hK hP 1 rfl ⟨by omega, by omega⟩ dX10_isApart_27 ?_
      refine r_beq 46 C dX10_isApart_28 rfl (fun b1 => ?_) (fun b1 => ?_)
      · skip
        refine r_iconst 1 C dX10_isApart_46 rfl ?_
        refine r_goto 51 C dX10_isApart_47 rfl ?_
        refine lv_istore_n (lv' := [(3, nV 1), (4, nV i), (0, .ref mo0), (1, nV x), (2, nV y)]) C.1 C.2.1 dX10_isApart_51 rfl hl (by decide) rfl (fun ls hl => ?_)
        refine r_incN (k := 1) (n := 1) [(4, nV (i + 1)), (3, nV 1), (0, .ref mo0), (1, nV x), (2, nV y)] C dX10_isApart_52 hl rfl rfl (by decide) rfl (fun ls hl => ?_)
        refine r_goto 5 C dX10_isApart_55 rfl ?_
        exact ih_5 (i + 1) 1 _ (by first | assumption | omega) (by show _ = if (mtB (SS x) (SS y) i || (SS x i && SS y i)) = true then 0 else 1; have q : mtB (SS x) (SS y) i = false := (by cases w : mtB (SS x) (SS y) i; rfl; rw [w] at hz; simp at hz; omega); rw [q, ← e1, Bool.eq_false_iff.mpr b1]; simp) (by omega) (lv_sub hl [0, 1, 2, 3, 4] rfl)
      refine lv_aload_n C.1 C.2.1 dX10_isApart_31 rfl (lv_at hl 2 rfl) ?_
      refine r_get C hK hP kw_X10 (ci := 8) rfl 0 16 (by decide) kf_X10_47 rfl rfl dX10_isApart_32 ?_
      refine r_bipush 72 C dX10_isApart_35 (by decide) ?_
      refine lv_iload_n C.1 C.2.1 dX10_isApart_37 rfl (lv_at hl 4 rfl) ?_
      refine r_mulN C dX10_isApart_38 ?_
      refine lv_iload C.1 C.2.1 dX10_isApart_39 (lv_at hl 0 rfl) ?_
      refine r_addN C dX10_isApart_41 ?_
      refine r_aldO C hK hP 1 rfl ⟨by omega, by omega⟩ dX10_isApart_42 ?_
      refine r_bne 50 C dX10_isApart_43 rfl (fun b2 => ?_) (fun b2 => ?_)
      · skip
        refine r_iconst 0 C dX10_isApart_50 rfl ?_
        refine lv_istore_n (lv' := [(3, nV 0), (4, nV i), (0, .ref mo0), (1, nV x), (2, nV y)]) C.1 C.2.1 dX10_isApart_51 rfl hl (by decide) rfl (fun ls hl => ?_)
        refine r_incN (k := 1) (n := 1) [(4, nV (i + 1)), (3, nV 0), (0, .ref mo0), (1, nV x), (2, nV y)] C dX10_isApart_52 hl rfl rfl (by decide) rfl (fun ls hl => ?_)
        refine r_goto 5 C dX10_isApart_55 rfl ?_
        exact ih_5 (i + 1) 0 _ (by first | assumption | omega) (by show _ = if (mtB (SS x) (SS y) i || (SS x i && SS y i)) = true then 0 else 1; have q : mtB (SS x) (SS y) i = false := (by cases w : mtB (SS x) (SS y) i; rfl; rw [w] at hz; simp at hz; omega); rw [← e1, ← e2, b1, b2]; simp) (by omega) (lv_sub hl [0, 1, 2, 3, 4] rfl)
      refine r_iconst 1 C dX10_isApart_46 rfl ?_
      refine r_goto 51 C dX10_isApart_47 rfl ?_
      refine lv_istore_n (lv' := [(3, nV 1), (4, nV i), (0, .ref mo0), (1, nV x), (2, nV y)]) C.1 C.2.1 dX10_isApart_51 rfl hl (by decide) rfl (fun ls hl => ?_)
      refine r_incN (k := 1) (n := 1) [(4, nV (i + 1)), (3, nV 1), (0, .ref mo0), (1, nV x), (2, nV y)] C dX10_isApart_52 hl rfl rfl (by decide) rfl (fun ls hl => ?_)
      refine r_goto 5 C dX10_isApart_55 rfl ?_
      exact ih_5 (i + 1) 1 _ (by first | assumption | omega) (by show _ = if (mtB (SS x) (SS y) i || (SS x i && SS y i)) = true then 0 else 1; have q : mtB (SS x) (SS y) i = false := (by cases w : mtB (SS x) (SS y) i; rfl; rw [w] at hz; simp at hz; omega); rw [q, ← e2, Bool.eq_false_iff.mpr b2]; simp) (by omega) (lv_sub hl [0, 1, 2, 3, 4] rfl)
  exact L5 (72 - 0 + 1) 0 1 _ (by first | assumption | omega) (rfl) (Nat.lt_succ_self _) (lv_sub hl [0, 1, 2, 3, 4] rfl)
set_option maxHeartbeats 4000000 in
set_option maxRecDepth 100000 in
theorem c_X10_codes (l : Launch) (g : GG) (mo0 : Nat) (mA1 : Nat) (mA3 : Nat) (mA4 : Nat) (mA5 : Nat) (mA6 : Nat) (mA7 : Nat) (mA8 : Nat) (mA9 : Nat) (mA10 : Nat) (mA11 : Nat) (mA12 : Nat) (mA15 : Nat) (mA16 : Nat) (mA17 : Nat) (mA20 : Nat) (mL : Nat) (mAt : Nat) (kz : Nat) (dn : Nat) (mAb : Nat) (mBe : Nat) (mCl : Int) (mbe : Nat → Int) (x : Nat) (y : Int) (z : Int) (hx : x < 72) (hy : -1 ≤ y ∧ y < 72) (hz : -1 ≤ z ∧ z < 72) (hcl : -4 ≤ mCl ∧ mCl < 1000) : WRv g l yX10_codes cX10_codes 5 2 [(mo0, .inr (8, [nV mL, .ref mA1, nV mAt, .ref mA3, .ref mA4, .ref mA5, .ref mA6, .ref mA7, .ref mA8, .ref mA9, .ref mA10, .ref mA11, .ref mA12, nV kz, nV dn, .ref mA15, .ref mA16, .ref mA17, mV mAb, mV mBe, .ref mA20, zV mCl])), (mA17, cZ g 3 mbe)] [.ref mo0, nV x, zV y, zV z] (fun (_ : Unit) => True) (fun (_ : Unit) => [(mo0, .inr (8, [nV mL, .ref mA1, nV mAt, .ref mA3, .ref mA4, .ref mA5, .ref mA6, .ref mA7, .ref mA8, .ref mA9, .ref mA10, .ref mA11, .ref mA12, nV kz, nV dn, .ref mA15, .ref mA16, .ref mA17, mV mAb, mV mBe, .ref mA20, zV ((cst (mCl, mbe) x y z).1)])), (mA17, cZ g 3 ((cst (mCl, mbe) x y z).2))]) := by
  refine wr_startV (by decide +kernel) (Nat.le_of_ble_eq_true rfl) ?_
  intro p e s m args below meth c Q A ls C hK hA ret hP hD hS hl
  have C : CT p s m args meth c cX10_codes RX10 5 := C
  have hl : lv_has ls 5 [(0, .ref mo0), (1, nV x), (2, zV y), (3, zV z)] := hl
  refine lv_iload_n C.1 C.2.1 dX10_codes_0 rfl (lv_at hl 1 rfl) ?_
  refine ro_callS (As := [nV x]) (rest := []) C hK (c_X10_flourOf l g x (by first | assumption | omega)) (hP.sub (ws' := []) [] rfl) kc_X10_flourOf kl_X10_114 kn_X10 ks_X10_flourOf nk_X10_flourOf (rm_lt (by decide) (by decide)) hl rfl (Nat.le_of_ble_eq_true rfl) dX10_codes_1 (fun r_1 hr_2 => ?_)
  subst hr_2
  refine lv_iload_n C.1 C.2.1 dX10_codes_4 rfl (lv_at hl 2 rfl) ?_
  refine r_ige 12 C dX10_codes_5 rfl (⟨by omega, by omega⟩) (fun h_3 => ?_) (fun h_3 => ?_)
  · skip
    obtain ⟨yn, rfl⟩ : ∃ n : Nat, y = (n : Int) := ⟨y.toNat, by omega⟩
    have hl : lv_has ls 5 [(0, .ref mo0), (1, nV x), (2, nV yn), (3, zV z)] := hl
    refine lv_iload_n C.1 C.2.1 dX10_codes_12 rfl (lv_at hl 2 rfl) ?_
    refine ro_callS (As := [nV yn]) (rest := [nV (fl x)]) C hK (c_X10_flourOf l g yn (by first | assumption | omega)) (hP.sub (ws' := []) [] rfl) kc_X10_flourOf kl_X10_114 kn_X10 ks_X10_flourOf nk_X10_flourOf (rm_lt (by decide) (by decide)) hl rfl (Nat.le_of_ble_eq_true rfl) dX10_codes_13 (fun r_4 hr_5 => ?_)
    subst hr_5
    refine r_addN C dX10_codes_16 ?_
    refine lv_iload_n C.1 C.2.1 dX10_codes_17 rfl (lv_at hl 3 rfl) ?_
    refine r_ige 25 C dX10_codes_18 rfl (⟨by omega, by omega⟩) (fun h_6 => ?_) (fun h_6 => ?_)
    · skip
      obtain ⟨zn, rfl⟩ : ∃ n : Nat, z = (n : Int) := ⟨z.toNat, by omega⟩
      have hl : lv_has ls 5 [(0, .ref mo0), (1, nV x), (2, nV yn), (3, nV zn)] := hl
      refine lv_iload_n C.1 C.2.1 dX10_codes_25 rfl (lv_at hl 3 rfl) ?_
      refine ro_callS (As := [nV zn]) (rest := [nV ((fl x) + (fl yn))]) C hK (c_X10_flourOf l g zn (by first | assumption | omega)) (hP.sub (ws' := []) [] rfl) kc_X10_flourOf kl_X10_114 kn_X10 ks_X10_flourOf nk_X10_flourOf (rm_lt (by decide) (by decide)) hl rfl (Nat.le_of_ble_eq_true rfl) dX10_codes_26 (fun r_7 hr_8 => ?_)
      subst hr_8
      refine r_addN C dX10_codes_29 ?_
      refine r_topN (csm x ((yn : Nat) : Int) ((zn : Nat) : Int)) (by unfold csm; first | (rw [if_pos (by omega), if_pos (by omega)]; done) | (rw [if_neg (by omega), if_pos (by omega)]; rfl) | (rw [if_neg (by omega), if_neg (by omega)]; rfl) | (rw [if_pos (by omega), if_neg (by omega)]; rfl)) ?_
      refine r_nameN (fun su hsu => ?_)
      have hsb : su ≤ 54 := by rw [hsu]; exact csm_bd hx (by omega) (by omega)
      refine lv_istore (lv' := [(4, nV su), (0, .ref mo0), (1, nV x), (2, nV yn), (3, nV zn)]) C.1 C.2.1 dX10_codes_30 hl (by decide) rfl (fun ls hl => ?_)
      refine lv_aload_n C.1 C.2.1 dX10_codes_32 rfl (lv_at hl 1 rfl) ?_
      refine r_get C hK hP kw_X10 (ci := 8) rfl 0 21 (by decide) kf_X10_170 rfl rfl dX10_codes_33 ?_
      refine r_ilt 48 C dX10_codes_36 rfl (⟨by omega, by omega⟩) (fun h_9 => ?_) (fun h_9 => ?_)
      · skip
        refine lv_aload_n C.1 C.2.1 dX10_codes_48 rfl (lv_at hl 1 rfl) ?_
        refine lv_iload C.1 C.2.1 dX10_codes_49 (lv_at hl 0 rfl) ?_
        refine r_put (v := nV su) C hK hP hD hS kw_X10 tyX10_ok nmX10 (ci := 8) rfl 0 21 (by decide) kf_X10_170 rfl rfl rfl rfl rfl (Nat.le_of_ble_eq_true rfl) dX10_codes_51 (fun H locs hP hD hS => ?_)
        have hP : va_P g.1 vwCl [(mo0, .inr (8, [nV mL, .ref mA1, nV mAt, .ref mA3, .ref mA4, .ref mA5, .ref mA6, .ref mA7, .ref mA8, .ref mA9, .ref mA10, .ref mA11, .ref mA12, nV kz, nV dn, .ref mA15, .ref mA16, .ref mA17, mV mAb, mV mBe, .ref mA20, nV su])), (mA17, cZ g 3 mbe)] H := hP
        have hD : va_D A [(mo0, .inr (8, [nV mL, .ref mA1, nV mAt, .ref mA3, .ref mA4, .ref mA5, .ref mA6, .ref mA7, .ref mA8, .ref mA9, .ref mA10, .ref mA11, .ref mA12, nV kz, nV dn, .ref mA15, .ref mA16, .ref mA17, mV mAb, mV mBe, .ref mA20, nV su])), (mA17, cZ g 3 mbe)] := hD
        refine lv_aload_n C.1 C.2.1 dX10_codes_54 rfl (lv_at hl 1 rfl) ?_
        refine r_get C hK hP kw_X10 (ci := 8) rfl 0 17 (by decide) kf_X10_51 rfl rfl dX10_codes_55 ?_
        refine r_iconst 0 C dX10_codes_58 rfl ?_
        refine lv_iload_n C.1 C.2.1 dX10_codes_59 rfl (lv_at hl 2 rfl) ?_
        refine r_astZ C hK hP hD hS 1 rfl ⟨by omega, by omega⟩ dX10_codes_60 (fun H locs hP hD hS => ?_)
        have hP : va_P g.1 vwCl [(mo0, .inr (8, [nV mL, .ref mA1, nV mAt, .ref mA3, .ref mA4, .ref mA5, .ref mA6, .ref mA7, .ref mA8, .ref mA9, .ref mA10, .ref mA11, .ref mA12, nV kz, nV dn, .ref mA15, .ref mA16, .ref mA17, mV mAb, mV mBe, .ref mA20, nV su])), (mA17, cZ g 3 (upZ mbe 0 ((x : Nat) : Int)))] H := hP
        have hD : va_D A [(mo0, .inr (8, [nV mL, .ref mA1, nV mAt, .ref mA3, .ref mA4, .ref mA5, .ref mA6, .ref mA7, .ref mA8, .ref mA9, .ref mA10, .ref mA11, .ref mA12, nV kz, nV dn, .ref mA15, .ref mA16, .ref mA17, mV mAb, mV mBe, .ref mA20, nV su])), (mA17, cZ g 3 (upZ mbe 0 ((x : Nat) : Int)))] := hD
        refine lv_aload_n C.1 C.2.1 dX10_codes_61 rfl (lv_at hl 1 rfl) ?_
        refine r_get C hK hP kw_X10 (ci := 8) rfl 0 17 (by decide) kf_X10_51 rfl rfl dX10_codes_62 ?_
        refine r_iconst 1 C dX10_codes_65 rfl ?_
        refine lv_iload_n C.1 C.2.1 dX10_codes_66 rfl (lv_at hl 3 rfl) ?_
        refine r_astZ C hK hP hD hS 1 rfl ⟨by omega, by omega⟩ dX10_codes_67 (fun H locs hP hD hS => ?_)
        have hP : va_P g.1 vwCl [(mo0, .inr (8, [nV mL, .ref mA1, nV mAt, .ref mA3, .ref mA4, .ref mA5, .ref mA6, .ref mA7, .ref mA8, .ref mA9, .ref mA10, .ref mA11, .ref mA12, nV kz, nV dn, .ref mA15, .ref mA16, .ref mA17, mV mAb, mV mBe, .ref mA20, nV su])), (mA17, cZ g 3 (upZ (upZ mbe 0 ((x : Nat) : Int)) 1 ((yn : Nat) : Int)))] H := hP
        have hD : va_D A [(mo0, .inr (8, [nV mL, .ref mA1, nV mAt, .ref mA3, .ref mA4, .ref mA5, .ref mA6, .ref mA7, .ref mA8, .ref mA9, .ref mA10, .ref mA11, .ref mA12, nV kz, nV dn, .ref mA15, .ref mA16, .ref mA17, mV mAb, mV mBe, .ref mA20, nV su])), (mA17, cZ g 3 (upZ (upZ mbe 0 ((x : Nat) : Int)) 1 ((yn : Nat) : Int)))] := hD
        refine lv_aload_n C.1 C.2.1 dX10_codes_68 rfl (lv_at hl 1 rfl) ?_
        refine r_get C hK hP kw_X10 (ci := 8) rfl 0 17 (by decide) kf_X10_51 rfl rfl dX10_codes_69 ?_
        refine r_iconst 2 C dX10_codes_72 rfl ?_
        refine lv_iload_n C.1 C.2.1 dX10_codes_73 rfl (lv_at hl 4 rfl) ?_
        refine r_astZ C hK hP hD hS 1 rfl ⟨by omega, by omega⟩ dX10_codes_74 (fun H locs hP hD hS => ?_)
        have hP : va_P g.1 vwCl [(mo0, .inr (8, [nV mL, .ref mA1, nV mAt, .ref mA3, .ref mA4, .ref mA5, .ref mA6, .ref mA7, .ref mA8, .ref mA9, .ref mA10, .ref mA11, .ref mA12, nV kz, nV dn, .ref mA15, .ref mA16, .ref mA17, mV mAb, mV mBe, .ref mA20, nV su])), (mA17, cZ g 3 (upZ (upZ (upZ mbe 0 ((x : Nat) : Int)) 1 ((yn : Nat) : Int)) 2 ((zn : Nat) : Int)))] H := hP
        have hD : va_D A [(mo0, .inr (8, [nV mL, .ref mA1, nV mAt, .ref mA3, .ref mA4, .ref mA5, .ref mA6, .ref mA7, .ref mA8, .ref mA9, .ref mA10, .ref mA11, .ref mA12, nV kz, nV dn, .ref mA15, .ref mA16, .ref mA17, mV mAb, mV mBe, .ref mA20, nV su])), (mA17, cZ g 3 (upZ (upZ (upZ mbe 0 ((x : Nat) : Int)) 1 ((yn : Nat) : Int)) 2 ((zn : Nat) : Int)))] := hD
        exact ret (()) dX10_codes_75 hS (by have e : cst (mCl, mbe) x ((yn : Nat) : Int) ((zn : Nat) : Int) = (((su : Nat) : Int), upZ (upZ (upZ mbe 0 ((x : Nat) : Int)) 1 ((yn : Nat) : Int)) 2 ((zn : Nat) : Int)) := (by unfold cst; rw [← hsu, if_pos (by omega)]); rw [e]; exact hP) (trivial)
      refine lv_iload C.1 C.2.1 dX10_codes_39 (lv_at hl 0 rfl) ?_
      refine lv_aload_n C.1 C.2.1 dX10_codes_41 rfl (lv_at hl 1 rfl) ?_
      refine r_get C hK hP kw_X10 (ci := 8) rfl 0 21 (by decide) kf_X10_170 rfl rfl dX10_codes_42 ?_
      refine r_cge 75 C dX10_codes_45 rfl ⟨rgN (by omega), ⟨by omega, by omega⟩⟩ (fun h_10 => ?_) (fun h_10 => ?_)
      · skip
        exact ret (()) dX10_codes_75 hS (by have e : cst (mCl, mbe) x ((yn : Nat) : Int) ((zn : Nat) : Int) = (mCl, mbe) := (by unfold cst; rw [← hsu, if_neg (by show ¬ (mCl < 0 ∨ ((su : Nat) : Int) < mCl); omega)]); rw [e]; exact hP) (trivial)
      refine lv_aload_n C.1 C.2.1 dX10_codes_48 rfl (lv_at hl 1 rfl) ?_
      refine lv_iload C.1 C.2.1 dX10_codes_49 (lv_at hl 0 rfl) ?_
      refine r_put (v := nV su) C hK hP hD hS kw_X10 tyX10_ok nmX10 (ci := 8) rfl 0 21 (by decide) kf_X10_170 rfl rfl rfl rfl rfl (Nat.le_of_ble_eq_true rfl) dX10_codes_51 (fun H locs hP hD hS => ?_)
      have hP : va_P g.1 vwCl [(mo0, .inr (8, [nV mL, .ref mA1, nV mAt, .ref mA3, .ref mA4, .ref mA5, .ref mA6, .ref mA7, .ref mA8, .ref mA9, .ref mA10, .ref mA11, .ref mA12, nV kz, nV dn, .ref mA15, .ref mA16, .ref mA17, mV mAb, mV mBe, .ref mA20, nV su])), (mA17, cZ g 3 mbe)] H := hP
      have hD : va_D A [(mo0, .inr (8, [nV mL, .ref mA1, nV mAt, .ref mA3, .ref mA4, .ref mA5, .ref mA6, .ref mA7, .ref mA8, .ref mA9, .ref mA10, .ref mA11, .ref mA12, nV kz, nV dn, .ref mA15, .ref mA16, .ref mA17, mV mAb, mV mBe, .ref mA20, nV su])), (mA17, cZ g 3 mbe)] := hD
      refine lv_aload_n C.1 C.2.1 dX10_codes_54 rfl (lv_at hl 1 rfl) ?_
      refine r_get C hK hP kw_X10 (ci := 8) rfl 0 17 (by decide) kf_X10_51 rfl rfl dX10_codes_55 ?_
      refine r_iconst 0 C dX10_codes_58 rfl ?_
      refine lv_iload_n C.1 C.2.1 dX10_codes_59 rfl (lv_at hl 2 rfl) ?_
      refine r_astZ C hK hP hD hS 1 rfl ⟨by omega, by omega⟩ dX10_codes_60 (fun H locs hP hD hS => ?_)
      have hP : va_P g.1 vwCl [(mo0, .inr (8, [nV mL, .ref mA1, nV mAt, .ref mA3, .ref mA4, .ref mA5, .ref mA6, .ref mA7, .ref mA8, .ref mA9, .ref mA10, .ref mA11, .ref mA12, nV kz, nV dn, .ref mA15, .ref mA16, .ref mA17, mV mAb, mV mBe, .ref mA20, nV su])), (mA17, cZ g 3 (upZ mbe 0 ((x : Nat) : Int)))] H := hP
      have hD : va_D A [(mo0, .inr (8, [nV mL, .ref mA1, nV mAt, .ref mA3, .ref mA4, .ref mA5, .ref mA6, .ref mA7, .ref mA8, .ref mA9, .ref mA10, .ref mA11, .ref mA12, nV kz, nV dn, .ref mA15, .ref mA16, .ref mA17, mV mAb, mV mBe, .ref mA20, nV su])), (mA17, cZ g 3 (upZ mbe 0 ((x : Nat) : Int)))] := hD
      refine lv_aload_n C.1 C.2.1 dX10_codes_61 rfl (lv_at hl 1 rfl) ?_
      refine r_get C hK hP kw_X10 (ci := 8) rfl 0 17 (by decide) kf_X10_51 rfl rfl dX10_codes_62 ?_
      refine r_iconst 1 C dX10_codes_65 rfl ?_
      refine lv_iload_n C.1 C.2.1 dX10_codes_66 rfl (lv_at hl 3 rfl) ?_
      refine r_astZ C hK hP hD hS 1 rfl ⟨by omega, by omega⟩ dX10_codes_67 (fun H locs hP hD hS => ?_)
      have hP : va_P g.1 vwCl [(mo0, .inr (8, [nV mL, .ref mA1, nV mAt, .ref mA3, .ref mA4, .ref mA5, .ref mA6, .ref mA7, .ref mA8, .ref mA9, .ref mA10, .ref mA11, .ref mA12, nV kz, nV dn, .ref mA15, .ref mA16, .ref mA17, mV mAb, mV mBe, .ref mA20, nV su])), (mA17, cZ g 3 (upZ (upZ mbe 0 ((x : Nat) : Int)) 1 ((yn : Nat) : Int)))] H := hP
      have hD : va_D A [(mo0, .inr (8, [nV mL, .ref mA1, nV mAt, .ref mA3, .ref mA4, .ref mA5, .ref mA6, .ref mA7, .ref mA8, .ref mA9, .ref mA10, .ref mA11, .ref mA12, nV kz, nV dn, .ref mA15, .ref mA16, .ref mA17, mV mAb, mV mBe, .ref mA20, nV su])), (mA17, cZ g 3 (upZ (upZ mbe 0 ((x : Nat) : Int)) 1 ((yn : Nat) : Int)))] := hD
      refine lv_aload_n C.1 C.2.1 dX10_codes_68 rfl (lv_at hl 1 rfl) ?_
      refine r_get C hK hP kw_X10 (ci := 8) rfl 0 17 (by decide) kf_X10_51 rfl rfl dX10_codes_69 ?_
      refine r_iconst 2 C dX10_codes_72 rfl ?_
      refine lv_iload_n C.1 C.2.1 dX10_codes_73 rfl (lv_at hl 4 rfl) ?_
      refine r_astZ C hK hP hD hS 1 rfl ⟨by omega, by omega⟩ dX10_codes_74 (fun H locs hP hD hS => ?_)
      have hP : va_P g.1 vwCl [(mo0, .inr (8, [nV mL, .ref mA1, nV mAt, .ref mA3, .ref mA4, .ref mA5, .ref mA6, .ref mA7, .ref mA8, .ref mA9, .ref mA10, .ref mA11, .ref mA12, nV kz, nV dn, .ref mA15, .ref mA16, .ref mA17, mV mAb, mV mBe, .ref mA20, nV su])), (mA17, cZ g 3 (upZ (upZ (upZ mbe 0 ((x : Nat) : Int)) 1 ((yn : Nat) : Int)) 2 ((zn : Nat) : Int)))] H := hP
      have hD : va_D A [(mo0, .inr (8, [nV mL, .ref mA1, nV mAt, .ref mA3, .ref mA4, .ref mA5, .ref mA6, .ref mA7, .ref mA8, .ref mA9, .ref mA10, .ref mA11, .ref mA12, nV kz, nV dn, .ref mA15, .ref mA16, .ref mA17, mV mAb, mV mBe, .ref mA20, nV su])), (mA17, cZ g 3 (upZ (upZ (upZ mbe 0 ((x : Nat) : Int)) 1 ((yn : Nat) : Int)) 2 ((zn : Nat) : Int)))] := hD
      exact ret (()) dX10_codes_75 hS (by have e : cst (mCl, mbe) x ((yn : Nat) : Int) ((zn : Nat) : Int) = (((su : Nat) : Int), upZ (upZ (upZ mbe 0 ((x : Nat) : Int)) 1 ((yn : Nat) : Int)) 2 ((zn : Nat) : Int)) := (by unfold cst; rw [← hsu, if_pos (by omega)]); rw [e]; exact hP) (trivial)
    refine r_iconst 0 C dX10_codes_21 rfl ?_
    refine r_goto 29 C dX10_codes_22 rfl ?_
    refine r_addN C dX10_codes_29 ?_
    refine r_topN (csm x ((yn : Nat) : Int) z) (by unfold csm; first | (rw [if_pos (by omega), if_pos (by omega)]; done) | (rw [if_neg (by omega), if_pos (by omega)]; rfl) | (rw [if_neg (by omega), if_neg (by omega)]; rfl) | (rw [if_pos (by omega), if_neg (by omega)]; rfl)) ?_
    refine r_nameN (fun su hsu => ?_)
    have hsb : su ≤ 54 := by rw [hsu]; exact csm_bd hx (by omega) (by omega)
    refine lv_istore (lv' := [(4, nV su), (0, .ref mo0), (1, nV x), (2, nV yn), (3, zV z)]) C.1 C.2.1 dX10_codes_30 hl (by decide) rfl (fun ls hl => ?_)
    refine lv_aload_n C.1 C.2.1 dX10_codes_32 rfl (lv_at hl 1 rfl) ?_
    refine r_get C hK hP kw_X10 (ci := 8) rfl 0 21 (by decide) kf_X10_170 rfl rfl dX10_codes_33 ?_
    refine r_ilt 48 C dX10_codes_36 rfl (⟨by omega, by omega⟩) (fun h_11 => ?_) (fun h_11 => ?_)
    · skip
      refine lv_aload_n C.1 C.2.1 dX10_codes_48 rfl (lv_at hl 1 rfl) ?_
      refine lv_iload C.1 C.2.1 dX10_codes_49 (lv_at hl 0 rfl) ?_
      refine r_put (v := nV su) C hK hP hD hS kw_X10 tyX10_ok nmX10 (ci := 8) rfl 0 21 (by decide) kf_X10_170 rfl rfl rfl rfl rfl (Nat.le_of_ble_eq_true rfl) dX10_codes_51 (fun H locs hP hD hS => ?_)
      have hP : va_P g.1 vwCl [(mo0, .inr (8, [nV mL, .ref mA1, nV mAt, .ref mA3, .ref mA4, .ref mA5, .ref mA6, .ref mA7, .ref mA8, .ref mA9, .ref mA10, .ref mA11, .ref mA12, nV kz, nV dn, .ref mA15, .ref mA16, .ref mA17, mV mAb, mV mBe, .ref mA20, nV su])), (mA17, cZ g 3 mbe)] H := hP
      have hD : va_D A [(mo0, .inr (8, [nV mL, .ref mA1, nV mAt, .ref mA3, .ref mA4, .ref mA5, .ref mA6, .ref mA7, .ref mA8, .ref mA9, .ref mA10, .ref mA11, .ref mA12, nV kz, nV dn, .ref mA15, .ref mA16, .ref mA17, mV mAb, mV mBe, .ref mA20, nV su])), (mA17, cZ g 3 mbe)] := hD
      refine lv_aload_n C.1 C.2.1 dX10_codes_54 rfl (lv_at hl 1 rfl) ?_
      refine r_get C hK hP kw_X10 (ci := 8) rfl 0 17 (by decide) kf_X10_51 rfl rfl dX10_codes_55 ?_
      refine r_iconst 0 C dX10_codes_58 rfl ?_
      refine lv_iload_n C.1 C.2.1 dX10_codes_59 rfl (lv_at hl 2 rfl) ?_
      refine r_astZ C hK hP hD hS 1 rfl ⟨by omega, by omega⟩ dX10_codes_60 (fun H locs hP hD hS => ?_)
      have hP : va_P g.1 vwCl [(mo0, .inr (8, [nV mL, .ref mA1, nV mAt, .ref mA3, .ref mA4, .ref mA5, .ref mA6, .ref mA7, .ref mA8, .ref mA9, .ref mA10, .ref mA11, .ref mA12, nV kz, nV dn, .ref mA15, .ref mA16, .ref mA17, mV mAb, mV mBe, .ref mA20, nV su])), (mA17, cZ g 3 (upZ mbe 0 ((x : Nat) : Int)))] H := hP
      have hD : va_D A [(mo0, .inr (8, [nV mL, .ref mA1, nV mAt, .ref mA3, .ref mA4, .ref mA5, .ref mA6, .ref mA7, .ref mA8, .ref mA9, .ref mA10, .ref mA11, .ref mA12, nV kz, nV dn, .ref mA15, .ref mA16, .ref mA17, mV mAb, mV mBe, .ref mA20, nV su])), (mA17, cZ g 3 (upZ mbe 0 ((x : Nat) : Int)))] := hD
      refine lv_aload_n C.1 C.2.1 dX10_codes_61 rfl (lv_at hl 1 rfl) ?_
      refine r_get C hK hP kw_X10 (ci := 8) rfl 0 17 (by decide) kf_X10_51 rfl rfl dX10_codes_62 ?_
      refine r_iconst 1 C dX10_codes_65 rfl ?_
      refine lv_iload_n C.1 C.2.1 dX10_codes_66 rfl (lv_at hl 3 rfl) ?_
      refine r_astZ C hK hP hD hS 1 rfl ⟨by omega, by omega⟩ dX10_codes_67 (fun H locs hP hD hS => ?_)
      have hP : va_P g.1 vwCl [(mo0, .inr (8, [nV mL, .ref mA1, nV mAt, .ref mA3, .ref mA4, .ref mA5, .ref mA6, .ref mA7, .ref mA8, .ref mA9, .ref mA10, .ref mA11, .ref mA12, nV kz, nV dn, .ref mA15, .ref mA16, .ref mA17, mV mAb, mV mBe, .ref mA20, nV su])), (mA17, cZ g 3 (upZ (upZ mbe 0 ((x : Nat) : Int)) 1 ((yn : Nat) : Int)))] H := hP
      have hD : va_D A [(mo0, .inr (8, [nV mL, .ref mA1, nV mAt, .ref mA3, .ref mA4, .ref mA5, .ref mA6, .ref mA7, .ref mA8, .ref mA9, .ref mA10, .ref mA11, .ref mA12, nV kz, nV dn, .ref mA15, .ref mA16, .ref mA17, mV mAb, mV mBe, .ref mA20, nV su])), (mA17, cZ g 3 (upZ (upZ mbe 0 ((x : Nat) : Int)) 1 ((yn : Nat) : Int)))] := hD
      refine lv_aload_n C.1 C.2.1 dX10_codes_68 rfl (lv_at hl 1 rfl) ?_
      refine r_get C hK hP kw_X10 (ci := 8) rfl 0 17 (by decide) kf_X10_51 rfl rfl dX10_codes_69 ?_
      refine r_iconst 2 C dX10_codes_72 rfl ?_
      refine lv_iload_n C.1 C.2.1 dX10_codes_73 rfl (lv_at hl 4 rfl) ?_
      refine r_astZ C hK hP hD hS 1 rfl ⟨by omega, by omega⟩ dX10_codes_74 (fun H locs hP hD hS => ?_)
      have hP : va_P g.1 vwCl [(mo0, .inr (8, [nV mL, .ref mA1, nV mAt, .ref mA3, .ref mA4, .ref mA5, .ref mA6, .ref mA7, .ref mA8, .ref mA9, .ref mA10, .ref mA11, .ref mA12, nV kz, nV dn, .ref mA15, .ref mA16, .ref mA17, mV mAb, mV mBe, .ref mA20, nV su])), (mA17, cZ g 3 (upZ (upZ (upZ mbe 0 ((x : Nat) : Int)) 1 ((yn : Nat) : Int)) 2 z))] H := hP
      have hD : va_D A [(mo0, .inr (8, [nV mL, .ref mA1, nV mAt, .ref mA3, .ref mA4, .ref mA5, .ref mA6, .ref mA7, .ref mA8, .ref mA9, .ref mA10, .ref mA11, .ref mA12, nV kz, nV dn, .ref mA15, .ref mA16, .ref mA17, mV mAb, mV mBe, .ref mA20, nV su])), (mA17, cZ g 3 (upZ (upZ (upZ mbe 0 ((x : Nat) : Int)) 1 ((yn : Nat) : Int)) 2 z))] := hD
      exact ret (()) dX10_codes_75 hS (by have e : cst (mCl, mbe) x ((yn : Nat) : Int) z = (((su : Nat) : Int), upZ (upZ (upZ mbe 0 ((x : Nat) : Int)) 1 ((yn : Nat) : Int)) 2 z) := (by unfold cst; rw [← hsu, if_pos (by omega)]); rw [e]; exact hP) (trivial)
    refine lv_iload C.1 C.2.1 dX10_codes_39 (lv_at hl 0 rfl) ?_
    refine lv_aload_n C.1 C.2.1 dX10_codes_41 rfl (lv_at hl 1 rfl) ?_
    refine r_get C hK hP kw_X10 (ci := 8) rfl 0 21 (by decide) kf_X10_170 rfl rfl dX10_codes_42 ?_
    refine r_cge 75 C dX10_codes_45 rfl ⟨rgN (by omega), ⟨by omega, by omega⟩⟩ (fun h_12 => ?_) (fun h_12 => ?_)
    · skip
      exact ret (()) dX10_codes_75 hS (by have e : cst (mCl, mbe) x ((yn : Nat) : Int) z = (mCl, mbe) := (by unfold cst; rw [← hsu, if_neg (by show ¬ (mCl < 0 ∨ ((su : Nat) : Int) < mCl); omega)]); rw [e]; exact hP) (trivial)
    refine lv_aload_n C.1 C.2.1 dX10_codes_48 rfl (lv_at hl 1 rfl) ?_
    refine lv_iload C.1 C.2.1 dX10_codes_49 (lv_at hl 0 rfl) ?_
    refine r_put (v := nV su) C hK hP hD hS kw_X10 tyX10_ok nmX10 (ci := 8) rfl 0 21 (by decide) kf_X10_170 rfl rfl rfl rfl rfl (Nat.le_of_ble_eq_true rfl) dX10_codes_51 (fun H locs hP hD hS => ?_)
    have hP : va_P g.1 vwCl [(mo0, .inr (8, [nV mL, .ref mA1, nV mAt, .ref mA3, .ref mA4, .ref mA5, .ref mA6, .ref mA7, .ref mA8, .ref mA9, .ref mA10, .ref mA11, .ref mA12, nV kz, nV dn, .ref mA15, .ref mA16, .ref mA17, mV mAb, mV mBe, .ref mA20, nV su])), (mA17, cZ g 3 mbe)] H := hP
    have hD : va_D A [(mo0, .inr (8, [nV mL, .ref mA1, nV mAt, .ref mA3, .ref mA4, .ref mA5, .ref mA6, .ref mA7, .ref mA8, .ref mA9, .ref mA10, .ref mA11, .ref mA12, nV kz, nV dn, .ref mA15, .ref mA16, .ref mA17, mV mAb, mV mBe, .ref mA20, nV su])), (mA17, cZ g 3 mbe)] := hD
    refine lv_aload_n C.1 C.2.1 dX10_codes_54 rfl (lv_at hl 1 rfl) ?_
    refine r_get C hK hP kw_X10 (ci := 8) rfl 0 17 (by decide) kf_X10_51 rfl rfl dX10_codes_55 ?_
    refine r_iconst 0 C dX10_codes_58 rfl ?_
    refine lv_iload_n C.1 C.2.1 dX10_codes_59 rfl (lv_at hl 2 rfl) ?_
    refine r_astZ C hK hP hD hS 1 rfl ⟨by omega, by omega⟩ dX10_codes_60 (fun H locs hP hD hS => ?_)
    have hP : va_P g.1 vwCl [(mo0, .inr (8, [nV mL, .ref mA1, nV mAt, .ref mA3, .ref mA4, .ref mA5, .ref mA6, .ref mA7, .ref mA8, .ref mA9, .ref mA10, .ref mA11, .ref mA12, nV kz, nV dn, .ref mA15, .ref mA16, .ref mA17, mV mAb, mV mBe, .ref mA20, nV su])), (mA17, cZ g 3 (upZ mbe 0 ((x : Nat) : Int)))] H := hP
    have hD : va_D A [(mo0, .inr (8, [nV mL, .ref mA1, nV mAt, .ref mA3, .ref mA4, .ref mA5, .ref mA6, .ref mA7, .ref mA8, .ref mA9, .ref mA10, .ref mA11, .ref mA12, nV kz, nV dn, .ref mA15, .ref mA16, .ref mA17, mV mAb, mV mBe, .ref mA20, nV su])), (mA17, cZ g 3 (upZ mbe 0 ((x : Nat) : Int)))] := hD
    refine lv_aload_n C.1 C.2.1 dX10_codes_61 rfl (lv_at hl 1 rfl) ?_
    refine r_get C hK hP kw_X10 (ci := 8) rfl 0 17 (by decide) kf_X10_51 rfl rfl dX10_codes_62 ?_
    refine r_iconst 1 C dX10_codes_65 rfl ?_
    refine lv_iload_n C.1 C.2.1 dX10_codes_66 rfl (lv_at hl 3 rfl) ?_
    refine r_astZ C hK hP hD hS 1 rfl ⟨by omega, by omega⟩ dX10_codes_67 (fun H locs hP hD hS => ?_)
    have hP : va_P g.1 vwCl [(mo0, .inr (8, [nV mL, .ref mA1, nV mAt, .ref mA3, .ref mA4, .ref mA5, .ref mA6, .ref mA7, .ref mA8, .ref mA9, .ref mA10, .ref mA11, .ref mA12, nV kz, nV dn, .ref mA15, .ref mA16, .ref mA17, mV mAb, mV mBe, .ref mA20, nV su])), (mA17, cZ g 3 (upZ (upZ mbe 0 ((x : Nat) : Int)) 1 ((yn : Nat) : Int)))] H := hP
    have hD : va_D A [(mo0, .inr (8, [nV mL, .ref mA1, nV mAt, .ref mA3, .ref mA4, .ref mA5, .ref mA6, .ref mA7, .ref mA8, .ref mA9, .ref mA10, .ref mA11, .ref mA12, nV kz, nV dn, .ref mA15, .ref mA16, .ref mA17, mV mAb, mV mBe, .ref mA20, nV su])), (mA17, cZ g 3 (upZ (upZ mbe 0 ((x : Nat) : Int)) 1 ((yn : Nat) : Int)))] := hD
    refine lv_aload_n C.1 C.2.1 dX10_codes_68 rfl (lv_at hl 1 rfl) ?_
    refine r_get C hK hP kw_X10 (ci := 8) rfl 0 17 (by decide) kf_X10_51 rfl rfl dX10_codes_69 ?_
    refine r_iconst 2 C dX10_codes_72 rfl ?_
    refine lv_iload_n C.1 C.2.1 dX10_codes_73 rfl (lv_at hl 4 rfl) ?_
    refine r_astZ C hK hP hD hS 1 rfl ⟨by omega, by omega⟩ dX10_codes_74 (fun H locs hP hD hS => ?_)
    have hP : va_P g.1 vwCl [(mo0, .inr (8, [nV mL, .ref mA1, nV mAt, .ref mA3, .ref mA4, .ref mA5, .ref mA6, .ref mA7, .ref mA8, .ref mA9, .ref mA10, .ref mA11, .ref mA12, nV kz, nV dn, .ref mA15, .ref mA16, .ref mA17, mV mAb, mV mBe, .ref mA20, nV su])), (mA17, cZ g 3 (upZ (upZ (upZ mbe 0 ((x : Nat) : Int)) 1 ((yn : Nat) : Int)) 2 z))] H := hP
    have hD : va_D A [(mo0, .inr (8, [nV mL, .ref mA1, nV mAt, .ref mA3, .ref mA4, .ref mA5, .ref mA6, .ref mA7, .ref mA8, .ref mA9, .ref mA10, .ref mA11, .ref mA12, nV kz, nV dn, .ref mA15, .ref mA16, .ref mA17, mV mAb, mV mBe, .ref mA20, nV su])), (mA17, cZ g 3 (upZ (upZ (upZ mbe 0 ((x : Nat) : Int)) 1 ((yn : Nat) : Int)) 2 z))] := hD
    exact ret (()) dX10_codes_75 hS (by have e : cst (mCl, mbe) x ((yn : Nat) : Int) z = (((su : Nat) : Int), upZ (upZ (upZ mbe 0 ((x : Nat) : Int)) 1 ((yn : Nat) : Int)) 2 z) := (by unfold cst; rw [← hsu, if_pos (by omega)]); rw [e]; exact hP) (trivial)
  refine r_iconst 0 C dX10_codes_8 rfl ?_
  refine r_goto 16 C dX10_codes_9 rfl ?_
  refine r_addN C dX10_codes_16 ?_
  refine lv_iload_n C.1 C.2.1 dX10_codes_17 rfl (lv_at hl 3 rfl) ?_
  refine r_ige 25 C dX10_codes_18 rfl (⟨by omega, by omega⟩) (fun h_13 => ?_) (fun h_13 => ?_)
  · skip
    obtain ⟨zn, rfl⟩ : ∃ n : Nat, z = (n : Int) := ⟨z.toNat, by omega⟩
    have hl : lv_has ls 5 [(0, .ref mo0), (1, nV x), (2, zV y), (3, nV zn)] := hl
    refine lv_iload_n C.1 C.2.1 dX10_codes_25 rfl (lv_at hl 3 rfl) ?_
    refine ro_callS (As := [nV zn]) (rest := [nV ((fl x) + 0)]) C hK (c_X10_flourOf l g zn (by first | assumption | omega)) (hP.sub (ws' := []) [] rfl) kc_X10_flourOf kl_X10_114 kn_X10 ks_X10_flourOf nk_X10_flourOf (rm_lt (by decide) (by decide)) hl rfl (Nat.le_of_ble_eq_true rfl) dX10_codes_26 (fun r_14 hr_15 => ?_)
    subst hr_15
    refine r_addN C dX10_codes_29 ?_
    refine r_topN (csm x y ((zn : Nat) : Int)) (by unfold csm; first | (rw [if_pos (by omega), if_pos (by omega)]; done) | (rw [if_neg (by omega), if_pos (by omega)]; rfl) | (rw [if_neg (by omega), if_neg (by omega)]; rfl) | (rw [if_pos (by omega), if_neg (by omega)]; rfl)) ?_
    refine r_nameN (fun su hsu => ?_)
    have hsb : su ≤ 54 := by rw [hsu]; exact csm_bd hx (by omega) (by omega)
    refine lv_istore (lv' := [(4, nV su), (0, .ref mo0), (1, nV x), (2, zV y), (3, nV zn)]) C.1 C.2.1 dX10_codes_30 hl (by decide) rfl (fun ls hl => ?_)
    refine lv_aload_n C.1 C.2.1 dX10_codes_32 rfl (lv_at hl 1 rfl) ?_
    refine r_get C hK hP kw_X10 (ci := 8) rfl 0 21 (by decide) kf_X10_170 rfl rfl dX10_codes_33 ?_
    refine r_ilt 48 C dX10_codes_36 rfl (⟨by omega, by omega⟩) (fun h_16 => ?_) (fun h_16 => ?_)
    · skip
      refine lv_aload_n C.1 C.2.1 dX10_codes_48 rfl (lv_at hl 1 rfl) ?_
      refine lv_iload C.1 C.2.1 dX10_codes_49 (lv_at hl 0 rfl) ?_
      refine r_put (v := nV su) C hK hP hD hS kw_X10 tyX10_ok nmX10 (ci := 8) rfl 0 21 (by decide) kf_X10_170 rfl rfl rfl rfl rfl (Nat.le_of_ble_eq_true rfl) dX10_codes_51 (fun H locs hP hD hS => ?_)
      have hP : va_P g.1 vwCl [(mo0, .inr (8, [nV mL, .ref mA1, nV mAt, .ref mA3, .ref mA4, .ref mA5, .ref mA6, .ref mA7, .ref mA8, .ref mA9, .ref mA10, .ref mA11, .ref mA12, nV kz, nV dn, .ref mA15, .ref mA16, .ref mA17, mV mAb, mV mBe, .ref mA20, nV su])), (mA17, cZ g 3 mbe)] H := hP
      have hD : va_D A [(mo0, .inr (8, [nV mL, .ref mA1, nV mAt, .ref mA3, .ref mA4, .ref mA5, .ref mA6, .ref mA7, .ref mA8, .ref mA9, .ref mA10, .ref mA11, .ref mA12, nV kz, nV dn, .ref mA15, .ref mA16, .ref mA17, mV mAb, mV mBe, .ref mA20, nV su])), (mA17, cZ g 3 mbe)] := hD
      refine lv_aload_n C.1 C.2.1 dX10_codes_54 rfl (lv_at hl 1 rfl) ?_
      refine r_get C hK hP kw_X10 (ci := 8) rfl 0 17 (by decide) kf_X10_51 rfl rfl dX10_codes_55 ?_
      refine r_iconst 0 C dX10_codes_58 rfl ?_
      refine lv_iload_n C.1 C.2.1 dX10_codes_59 rfl (lv_at hl 2 rfl) ?_
      refine r_astZ C hK hP hD hS 1 rfl ⟨by omega, by omega⟩ dX10_codes_60 (fun H locs hP hD hS => ?_)
      have hP : va_P g.1 vwCl [(mo0, .inr (8, [nV mL, .ref mA1, nV mAt, .ref mA3, .ref mA4, .ref mA5, .ref mA6, .ref mA7, .ref mA8, .ref mA9, .ref mA10, .ref mA11, .ref mA12, nV kz, nV dn, .ref mA15, .ref mA16, .ref mA17, mV mAb, mV mBe, .ref mA20, nV su])), (mA17, cZ g 3 (upZ mbe 0 ((x : Nat) : Int)))] H := hP
      have hD : va_D A [(mo0, .inr (8, [nV mL, .ref mA1, nV mAt, .ref mA3, .ref mA4, .ref mA5, .ref mA6, .ref mA7, .ref mA8, .ref mA9, .ref mA10, .ref mA11, .ref mA12, nV kz, nV dn, .ref mA15, .ref mA16, .ref mA17, mV mAb, mV mBe, .ref mA20, nV su])), (mA17, cZ g 3 (upZ mbe 0 ((x : Nat) : Int)))] := hD
      refine lv_aload_n C.1 C.2.1 dX10_codes_61 rfl (lv_at hl 1 rfl) ?_
      refine r_get C hK hP kw_X10 (ci := 8) rfl 0 17 (by decide) kf_X10_51 rfl rfl dX10_codes_62 ?_
      refine r_iconst 1 C dX10_codes_65 rfl ?_
      refine lv_iload_n C.1 C.2.1 dX10_codes_66 rfl (lv_at hl 3 rfl) ?_
      refine r_astZ C hK hP hD hS 1 rfl ⟨by omega, by omega⟩ dX10_codes_67 (fun H locs hP hD hS => ?_)
      have hP : va_P g.1 vwCl [(mo0, .inr (8, [nV mL, .ref mA1, nV mAt, .ref mA3, .ref mA4, .ref mA5, .ref mA6, .ref mA7, .ref mA8, .ref mA9, .ref mA10, .ref mA11, .ref mA12, nV kz, nV dn, .ref mA15, .ref mA16, .ref mA17, mV mAb, mV mBe, .ref mA20, nV su])), (mA17, cZ g 3 (upZ (upZ mbe 0 ((x : Nat) : Int)) 1 y))] H := hP
      have hD : va_D A [(mo0, .inr (8, [nV mL, .ref mA1, nV mAt, .ref mA3, .ref mA4, .ref mA5, .ref mA6, .ref mA7, .ref mA8, .ref mA9, .ref mA10, .ref mA11, .ref mA12, nV kz, nV dn, .ref mA15, .ref mA16, .ref mA17, mV mAb, mV mBe, .ref mA20, nV su])), (mA17, cZ g 3 (upZ (upZ mbe 0 ((x : Nat) : Int)) 1 y))] := hD
      refine lv_aload_n C.1 C.2.1 dX10_codes_68 rfl (lv_at hl 1 rfl) ?_
      refine r_get C hK hP kw_X10 (ci := 8) rfl 0 17 (by decide) kf_X10_51 rfl rfl dX10_codes_69 ?_
      refine r_iconst 2 C dX10_codes_72 rfl ?_
      refine lv_iload_n C.1 C.2.1 dX10_codes_73 rfl (lv_at hl 4 rfl) ?_
      refine r_astZ C hK hP hD hS 1 rfl ⟨by omega, by omega⟩ dX10_codes_74 (fun H locs hP hD hS => ?_)
      have hP : va_P g.1 vwCl [(mo0, .inr (8, [nV mL, .ref mA1, nV mAt, .ref mA3, .ref mA4, .ref mA5, .ref mA6, .ref mA7, .ref mA8, .ref mA9, .ref mA10, .ref mA11, .ref mA12, nV kz, nV dn, .ref mA15, .ref mA16, .ref mA17, mV mAb, mV mBe, .ref mA20, nV su])), (mA17, cZ g 3 (upZ (upZ (upZ mbe 0 ((x : Nat) : Int)) 1 y) 2 ((zn : Nat) : Int)))] H := hP
      have hD : va_D A [(mo0, .inr (8, [nV mL, .ref mA1, nV mAt, .ref mA3, .ref mA4, .ref mA5, .ref mA6, .ref mA7, .ref mA8, .ref mA9, .ref mA10, .ref mA11, .ref mA12, nV kz, nV dn, .ref mA15, .ref mA16, .ref mA17, mV mAb, mV mBe, .ref mA20, nV su])), (mA17, cZ g 3 (upZ (upZ (upZ mbe 0 ((x : Nat) : Int)) 1 y) 2 ((zn : Nat) : Int)))] := hD
      exact ret (()) dX10_codes_75 hS (by have e : cst (mCl, mbe) x y ((zn : Nat) : Int) = (((su : Nat) : Int), upZ (upZ (upZ mbe 0 ((x : Nat) : Int)) 1 y) 2 ((zn : Nat) : Int)) := (by unfold cst; rw [← hsu, if_pos (by omega)]); rw [e]; exact hP) (trivial)
    refine lv_iload C.1 C.2.1 dX10_codes_39 (lv_at hl 0 rfl) ?_
    refine lv_aload_n C.1 C.2.1 dX10_codes_41 rfl (lv_at hl 1 rfl) ?_
    refine r_get C hK hP kw_X10 (ci := 8) rfl 0 21 (by decide) kf_X10_170 rfl rfl dX10_codes_42 ?_
    refine r_cge 75 C dX10_codes_45 rfl ⟨rgN (by omega), ⟨by omega, by omega⟩⟩ (fun h_17 => ?_) (fun h_17 => ?_)
    · skip
      exact ret (()) dX10_codes_75 hS (by have e : cst (mCl, mbe) x y ((zn : Nat) : Int) = (mCl, mbe) := (by unfold cst; rw [← hsu, if_neg (by show ¬ (mCl < 0 ∨ ((su : Nat) : Int) < mCl); omega)]); rw [e]; exact hP) (trivial)
    refine lv_aload_n C.1 C.2.1 dX10_codes_48 rfl (lv_at hl 1 rfl) ?_
    refine lv_iload C.1 C.2.1 dX10_codes_49 (lv_at hl 0 rfl) ?_
    refine r_put (v := nV su) C hK hP hD hS kw_X10 tyX10_ok nmX10 (ci := 8) rfl 0 21 (by decide) kf_X10_170 rfl rfl rfl rfl rfl (Nat.le_of_ble_eq_true rfl) dX10_codes_51 (fun H locs hP hD hS => ?_)
    have hP : va_P g.1 vwCl [(mo0, .inr (8, [nV mL, .ref mA1, nV mAt, .ref mA3, .ref mA4, .ref mA5, .ref mA6, .ref mA7, .ref mA8, .ref mA9, .ref mA10, .ref mA11, .ref mA12, nV kz, nV dn, .ref mA15, .ref mA16, .ref mA17, mV mAb, mV mBe, .ref mA20, nV su])), (mA17, cZ g 3 mbe)] H := hP
    have hD : va_D A [(mo0, .inr (8, [nV mL, .ref mA1, nV mAt, .ref mA3, .ref mA4, .ref mA5, .ref mA6, .ref mA7, .ref mA8, .ref mA9, .ref mA10, .ref mA11, .ref mA12, nV kz, nV dn, .ref mA15, .ref mA16, .ref mA17, mV mAb, mV mBe, .ref mA20, nV su])), (mA17, cZ g 3 mbe)] := hD
    refine lv_aload_n C.1 C.2.1 dX10_codes_54 rfl (lv_at hl 1 rfl) ?_
    refine r_get C hK hP kw_X10 (ci := 8) rfl 0 17 (by decide) kf_X10_51 rfl rfl dX10_codes_55 ?_
    refine r_iconst 0 C dX10_codes_58 rfl ?_
    refine lv_iload_n C.1 C.2.1 dX10_codes_59 rfl (lv_at hl 2 rfl) ?_
    refine r_astZ C hK hP hD hS 1 rfl ⟨by omega, by omega⟩ dX10_codes_60 (fun H locs hP hD hS => ?_)
    have hP : va_P g.1 vwCl [(mo0, .inr (8, [nV mL, .ref mA1, nV mAt, .ref mA3, .ref mA4, .ref mA5, .ref mA6, .ref mA7, .ref mA8, .ref mA9, .ref mA10, .ref mA11, .ref mA12, nV kz, nV dn, .ref mA15, .ref mA16, .ref mA17, mV mAb, mV mBe, .ref mA20, nV su])), (mA17, cZ g 3 (upZ mbe 0 ((x : Nat) : Int)))] H := hP
    have hD : va_D A [(mo0, .inr (8, [nV mL, .ref mA1, nV mAt, .ref mA3, .ref mA4, .ref mA5, .ref mA6, .ref mA7, .ref mA8, .ref mA9, .ref mA10, .ref mA11, .ref mA12, nV kz, nV dn, .ref mA15, .ref mA16, .ref mA17, mV mAb, mV mBe, .ref mA20, nV su])), (mA17, cZ g 3 (upZ mbe 0 ((x : Nat) : Int)))] := hD
    refine lv_aload_n C.1 C.2.1 dX10_codes_61 rfl (lv_at hl 1 rfl) ?_
    refine r_get C hK hP kw_X10 (ci := 8) rfl 0 17 (by decide) kf_X10_51 rfl rfl dX10_codes_62 ?_
    refine r_iconst 1 C dX10_codes_65 rfl ?_
    refine lv_iload_n C.1 C.2.1 dX10_codes_66 rfl (lv_at hl 3 rfl) ?_
    refine r_astZ C hK hP hD hS 1 rfl ⟨by omega, by omega⟩ dX10_codes_67 (fun H locs hP hD hS => ?_)
    have hP : va_P g.1 vwCl [(mo0, .inr (8, [nV mL, .ref mA1, nV mAt, .ref mA3, .ref mA4, .ref mA5, .ref mA6, .ref mA7, .ref mA8, .ref mA9, .ref mA10, .ref mA11, .ref mA12, nV kz, nV dn, .ref mA15, .ref mA16, .ref mA17, mV mAb, mV mBe, .ref mA20, nV su])), (mA17, cZ g 3 (upZ (upZ mbe 0 ((x : Nat) : Int)) 1 y))] H := hP
    have hD : va_D A [(mo0, .inr (8, [nV mL, .ref mA1, nV mAt, .ref mA3, .ref mA4, .ref mA5, .ref mA6, .ref mA7, .ref mA8, .ref mA9, .ref mA10, .ref mA11, .ref mA12, nV kz, nV dn, .ref mA15, .ref mA16, .ref mA17, mV mAb, mV mBe, .ref mA20, nV su])), (mA17, cZ g 3 (upZ (upZ mbe 0 ((x : Nat) : Int)) 1 y))] := hD
    refine lv_aload_n C.1 C.2.1 dX10_codes_68 rfl (lv_at hl 1 rfl) ?_
    refine r_get C hK hP kw_X10 (ci := 8) rfl 0 17 (by decide) kf_X10_51 rfl rfl dX10_codes_69 ?_
    refine r_iconst 2 C dX10_codes_72 rfl ?_
    refine lv_iload_n C.1 C.2.1 dX10_codes_73 rfl (lv_at hl 4 rfl) ?_
    refine r_astZ C hK hP hD hS 1 rfl ⟨by omega, by omega⟩ dX10_codes_74 (fun H locs hP hD hS => ?_)
    have hP : va_P g.1 vwCl [(mo0, .inr (8, [nV mL, .ref mA1, nV mAt, .ref mA3, .ref mA4, .ref mA5, .ref mA6, .ref mA7, .ref mA8, .ref mA9, .ref mA10, .ref mA11, .ref mA12, nV kz, nV dn, .ref mA15, .ref mA16, .ref mA17, mV mAb, mV mBe, .ref mA20, nV su])), (mA17, cZ g 3 (upZ (upZ (upZ mbe 0 ((x : Nat) : Int)) 1 y) 2 ((zn : Nat) : Int)))] H := hP
    have hD : va_D A [(mo0, .inr (8, [nV mL, .ref mA1, nV mAt, .ref mA3, .ref mA4, .ref mA5, .ref mA6, .ref mA7, .ref mA8, .ref mA9, .ref mA10, .ref mA11, .ref mA12, nV kz, nV dn, .ref mA15, .ref mA16, .ref mA17, mV mAb, mV mBe, .ref mA20, nV su])), (mA17, cZ g 3 (upZ (upZ (upZ mbe 0 ((x : Nat) : Int)) 1 y) 2 ((zn : Nat) : Int)))] := hD
    exact ret (()) dX10_codes_75 hS (by have e : cst (mCl, mbe) x y ((zn : Nat) : Int) = (((su : Nat) : Int), upZ (upZ (upZ mbe 0 ((x : Nat) : Int)) 1 y) 2 ((zn : Nat) : Int)) := (by unfold cst; rw [← hsu, if_pos (by omega)]); rw [e]; exact hP) (trivial)
  refine r_iconst 0 C dX10_codes_21 rfl ?_
  refine r_goto 29 C dX10_codes_22 rfl ?_
  refine r_addN C dX10_codes_29 ?_
  refine r_topN (csm x y z) (by unfold csm; first | (rw [if_pos (by omega), if_pos (by omega)]; done) | (rw [if_neg (by omega), if_pos (by omega)]; rfl) | (rw [if_neg (by omega), if_neg (by omega)]; rfl) | (rw [if_pos (by omega), if_neg (by omega)]; rfl)) ?_
  refine r_nameN (fun su hsu => ?_)
  have hsb : su ≤ 54 := by rw [hsu]; exact csm_bd hx (by omega) (by omega)
  refine lv_istore (lv' := [(4, nV su), (0, .ref mo0), (1, nV x), (2, zV y), (3, zV z)]) C.1 C.2.1 dX10_codes_30 hl (by decide) rfl (fun ls hl => ?_)
  refine lv_aload_n C.1 C.2.1 dX10_codes_32 rfl (lv_at hl 1 rfl) ?_
  refine r_get C hK hP kw_X10 (ci := 8) rfl 0 21 (by decide) kf_X10_170 rfl rfl dX10_codes_33 ?_
  refine r_ilt 48 C dX10_codes_36 rfl (⟨by omega, by omega⟩) (fun h_18 => ?_) (fun h_18 => ?_)
  · skip
    refine lv_aload_n C.1 C.2.1 dX10_codes_48 rfl (lv_at hl 1 rfl) ?_
    refine lv_iload C.1 C.2.1 dX10_codes_49 (lv_at hl 0 rfl) ?_
    refine r_put (v := nV su) C hK hP hD hS kw_X10 tyX10_ok nmX10 (ci := 8) rfl 0 21 (by decide) kf_X10_170 rfl rfl rfl rfl rfl (Nat.le_of_ble_eq_true rfl) dX10_codes_51 (fun H locs hP hD hS => ?_)
    have hP : va_P g.1 vwCl [(mo0, .inr (8, [nV mL, .ref mA1, nV mAt, .ref mA3, .ref mA4, .ref mA5, .ref mA6, .ref mA7, .ref mA8, .ref mA9, .ref mA10, .ref mA11, .ref mA12, nV kz, nV dn, .ref mA15, .ref mA16, .ref mA17, mV mAb, mV mBe, .ref mA20, nV su])), (mA17, cZ g 3 mbe)] H := hP
    have hD : va_D A [(mo0, .inr (8, [nV mL, .ref mA1, nV mAt, .ref mA3, .ref mA4, .ref mA5, .ref mA6, .ref mA7, .ref mA8, .ref mA9, .ref mA10, .ref mA11, .ref mA12, nV kz, nV dn, .ref mA15, .ref mA16, .ref mA17, mV mAb, mV mBe, .ref mA20, nV su])), (mA17, cZ g 3 mbe)] := hD
    refine lv_aload_n C.1 C.2.1 dX10_codes_54 rfl (lv_at hl 1 rfl) ?_
    refine r_get C hK hP kw_X10 (ci := 8) rfl 0 17 (by decide) kf_X10_51 rfl rfl dX10_codes_55 ?_
    refine r_iconst 0 C dX10_codes_58 rfl ?_
    refine lv_iload_n C.1 C.2.1 dX10_codes_59 rfl (lv_at hl 2 rfl) ?_
    refine r_astZ C hK hP hD hS 1 rfl ⟨by omega, by omega⟩ dX10_codes_60 (fun H locs hP hD hS => ?_)
    have hP : va_P g.1 vwCl [(mo0, .inr (8, [nV mL, .ref mA1, nV mAt, .ref mA3, .ref mA4, .ref mA5, .ref mA6, .ref mA7, .ref mA8, .ref mA9, .ref mA10, .ref mA11, .ref mA12, nV kz, nV dn, .ref mA15, .ref mA16, .ref mA17, mV mAb, mV mBe, .ref mA20, nV su])), (mA17, cZ g 3 (upZ mbe 0 ((x : Nat) : Int)))] H := hP
    have hD : va_D A [(mo0, .inr (8, [nV mL, .ref mA1, nV mAt, .ref mA3, .ref mA4, .ref mA5, .ref mA6, .ref mA7, .ref mA8, .ref mA9, .ref mA10, .ref mA11, .ref mA12, nV kz, nV dn, .ref mA15, .ref mA16, .ref mA17, mV mAb, mV mBe, .ref mA20, nV su])), (mA17, cZ g 3 (upZ mbe 0 ((x : Nat) : Int)))] := hD
    refine lv_aload_n C.1 C.2.1 dX10_codes_61 rfl (lv_at hl 1 rfl) ?_
    refine r_get C hK hP kw_X10 (ci := 8) rfl 0 17 (by decide) kf_X10_51 rfl rfl dX10_codes_62 ?_
    refine r_iconst 1 C dX10_codes_65 rfl ?_
    refine lv_iload_n C.1 C.2.1 dX10_codes_66 rfl (lv_at hl 3 rfl) ?_
    refine r_astZ C hK hP hD hS 1 rfl ⟨by omega, by omega⟩ dX10_codes_67 (fun H locs hP hD hS => ?_)
    have hP : va_P g.1 vwCl [(mo0, .inr (8, [nV mL, .ref mA1, nV mAt, .ref mA3, .ref mA4, .ref mA5, .ref mA6, .ref mA7, .ref mA8, .ref mA9, .ref mA10, .ref mA11, .ref mA12, nV kz, nV dn, .ref mA15, .ref mA16, .ref mA17, mV mAb, mV mBe, .ref mA20, nV su])), (mA17, cZ g 3 (upZ (upZ mbe 0 ((x : Nat) : Int)) 1 y))] H := hP
    have hD : va_D A [(mo0, .inr (8, [nV mL, .ref mA1, nV mAt, .ref mA3, .ref mA4, .ref mA5, .ref mA6, .ref mA7, .ref mA8, .ref mA9, .ref mA10, .ref mA11, .ref mA12, nV kz, nV dn, .ref mA15, .ref mA16, .ref mA17, mV mAb, mV mBe, .ref mA20, nV su])), (mA17, cZ g 3 (upZ (upZ mbe 0 ((x : Nat) : Int)) 1 y))] := hD
    refine lv_aload_n C.1 C.2.1 dX10_codes_68 rfl (lv_at hl 1 rfl) ?_
    refine r_get C hK hP kw_X10 (ci := 8) rfl 0 17 (by decide) kf_X10_51 rfl rfl dX10_codes_69 ?_
    refine r_iconst 2 C dX10_codes_72 rfl ?_
    refine lv_iload_n C.1 C.2.1 dX10_codes_73 rfl (lv_at hl 4 rfl) ?_
    refine r_astZ C hK hP hD hS 1 rfl ⟨by omega, by omega⟩ dX10_codes_74 (fun H locs hP hD hS => ?_)
    have hP : va_P g.1 vwCl [(mo0, .inr (8, [nV mL, .ref mA1, nV mAt, .ref mA3, .ref mA4, .ref mA5, .ref mA6, .ref mA7, .ref mA8, .ref mA9, .ref mA10, .ref mA11, .ref mA12, nV kz, nV dn, .ref mA15, .ref mA16, .ref mA17, mV mAb, mV mBe, .ref mA20, nV su])), (mA17, cZ g 3 (upZ (upZ (upZ mbe 0 ((x : Nat) : Int)) 1 y) 2 z))] H := hP
    have hD : va_D A [(mo0, .inr (8, [nV mL, .ref mA1, nV mAt, .ref mA3, .ref mA4, .ref mA5, .ref mA6, .ref mA7, .ref mA8, .ref mA9, .ref mA10, .ref mA11, .ref mA12, nV kz, nV dn, .ref mA15, .ref mA16, .ref mA17, mV mAb, mV mBe, .ref mA20, nV su])), (mA17, cZ g 3 (upZ (upZ (upZ mbe 0 ((x : Nat) : Int)) 1 y) 2 z))] := hD
    exact ret (()) dX10_codes_75 hS (by have e : cst (mCl, mbe) x y z = (((su : Nat) : Int), upZ (upZ (upZ mbe 0 ((x : Nat) : Int)) 1 y) 2 z) := (by unfold cst; rw [← hsu, if_pos (by omega)]); rw [e]; exact hP) (trivial)
  refine lv_iload C.1 C.2.1 dX10_codes_39 (lv_at hl 0 rfl) ?_
  refine lv_aload_n C.1 C.2.1 dX10_codes_41 rfl (lv_at hl 1 rfl) ?_
  refine r_get C hK hP kw_X10 (ci := 8) rfl 0 21 (by decide) kf_X10_170 rfl rfl dX10_codes_42 ?_
  refine r_cge 75 C dX10_codes_45 rfl ⟨rgN (by omega), ⟨by omega, by omega⟩⟩ (fun h_19 => ?_) (fun h_19 => ?_)
  · skip
    exact ret (()) dX10_codes_75 hS (by have e : cst (mCl, mbe) x y z = (mCl, mbe) := (by unfold cst; rw [← hsu, if_neg (by show ¬ (mCl < 0 ∨ ((su : Nat) : Int) < mCl); omega)]); rw [e]; exact hP) (trivial)
  refine lv_aload_n C.1 C.2.1 dX10_codes_48 rfl (lv_at hl 1 rfl) ?_
  refine lv_iload C.1 C.2.1 dX10_codes_49 (lv_at hl 0 rfl) ?_
  refine r_put (v := nV su) C hK hP hD hS kw_X10 tyX10_ok nmX10 (ci := 8) rfl 0 21 (by decide) kf_X10_170 rfl rfl rfl rfl rfl (Nat.le_of_ble_eq_true rfl) dX10_codes_51 (fun H locs hP hD hS => ?_)
  have hP : va_P g.1 vwCl [(mo0, .inr (8, [nV mL, .ref mA1, nV mAt, .ref mA3, .ref mA4, .ref mA5, .ref mA6, .ref mA7, .ref mA8, .ref mA9, .ref mA10, .ref mA11, .ref mA12, nV kz, nV dn, .ref mA15, .ref mA16, .ref mA17, mV mAb, mV mBe, .ref mA20, nV su])), (mA17, cZ g 3 mbe)] H := hP
  have hD : va_D A [(mo0, .inr (8, [nV mL, .ref mA1, nV mAt, .ref mA3, .ref mA4, .ref mA5, .ref mA6, .ref mA7, .ref mA8, .ref mA9, .ref mA10, .ref mA11, .ref mA12, nV kz, nV dn, .ref mA15, .ref mA16, .ref mA17, mV mAb, mV mBe, .ref mA20, nV su])), (mA17, cZ g 3 mbe)] := hD
  refine lv_aload_n C.1 C.2.1 dX10_codes_54 rfl (lv_at hl 1 rfl) ?_
  refine r_get C hK hP kw_X10 (ci := 8) rfl 0 17 (by decide) kf_X10_51 rfl rfl dX10_codes_55 ?_
  refine r_iconst 0 C dX10_codes_58 rfl ?_
  refine lv_iload_n C.1 C.2.1 dX10_codes_59 rfl (lv_at hl 2 rfl) ?_
  refine r_astZ C hK hP hD hS 1 rfl ⟨by omega, by omega⟩ dX10_codes_60 (fun H locs hP hD hS => ?_)
  have hP : va_P g.1 vwCl [(mo0, .inr (8, [nV mL, .ref mA1, nV mAt, .ref mA3, .ref mA4, .ref mA5, .ref mA6, .ref mA7, .ref mA8, .ref mA9, .ref mA10, .ref mA11, .ref mA12, nV kz, nV dn, .ref mA15, .ref mA16, .ref mA17, mV mAb, mV mBe, .ref mA20, nV su])), (mA17, cZ g 3 (upZ mbe 0 ((x : Nat) : Int)))] H := hP
  have hD : va_D A [(mo0, .inr (8, [nV mL, .ref mA1, nV mAt, .ref mA3, .ref mA4, .ref mA5, .ref mA6, .ref mA7, .ref mA8, .ref mA9, .ref mA10, .ref mA11, .ref mA12, nV kz, nV dn, .ref mA15, .ref mA16, .ref mA17, mV mAb, mV mBe, .ref mA20, nV su])), (mA17, cZ g 3 (upZ mbe 0 ((x : Nat) : Int)))] := hD
  refine lv_aload_n C.1 C.2.1 dX10_codes_61 rfl (lv_at hl 1 rfl) ?_
  refine r_get C hK hP kw_X10 (ci := 8) rfl 0 17 (by decide) kf_X10_51 rfl rfl dX10_codes_62 ?_
  refine r_iconst 1 C dX10_codes_65 rfl ?_
  refine lv_iload_n C.1 C.2.1 dX10_codes_66 rfl (lv_at hl 3 rfl) ?_
  refine r_astZ C hK hP hD hS 1 rfl ⟨by omega, by omega⟩ dX10_codes_67 (fun H locs hP hD hS => ?_)
  have hP : va_P g.1 vwCl [(mo0, .inr (8, [nV mL, .ref mA1, nV mAt, .ref mA3, .ref mA4, .ref mA5, .ref mA6, .ref mA7, .ref mA8, .ref mA9, .ref mA10, .ref mA11, .ref mA12, nV kz, nV dn, .ref mA15, .ref mA16, .ref mA17, mV mAb, mV mBe, .ref mA20, nV su])), (mA17, cZ g 3 (upZ (upZ mbe 0 ((x : Nat) : Int)) 1 y))] H := hP
  have hD : va_D A [(mo0, .inr (8, [nV mL, .ref mA1, nV mAt, .ref mA3, .ref mA4, .ref mA5, .ref mA6, .ref mA7, .ref mA8, .ref mA9, .ref mA10, .ref mA11, .ref mA12, nV kz, nV dn, .ref mA15, .ref mA16, .ref mA17, mV mAb, mV mBe, .ref mA20, nV su])), (mA17, cZ g 3 (upZ (upZ mbe 0 ((x : Nat) : Int)) 1 y))] := hD
  refine lv_aload_n C.1 C.2.1 dX10_codes_68 rfl (lv_at hl 1 rfl) ?_
  refine r_get C hK hP kw_X10 (ci := 8) rfl 0 17 (by decide) kf_X10_51 rfl rfl dX10_codes_69 ?_
  refine r_iconst 2 C dX10_codes_72 rfl ?_
  refine lv_iload_n C.1 C.2.1 dX10_codes_73 rfl (lv_at hl 4 rfl) ?_
  refine r_astZ C hK hP hD hS 1 rfl ⟨by omega, by omega⟩ dX10_codes_74 (fun H locs hP hD hS => ?_)
  have hP : va_P g.1 vwCl [(mo0, .inr (8, [nV mL, .ref mA1, nV mAt, .ref mA3, .ref mA4, .ref mA5, .ref mA6, .ref mA7, .ref mA8, .ref mA9, .ref mA10, .ref mA11, .ref mA12, nV kz, nV dn, .ref mA15, .ref mA16, .ref mA17, mV mAb, mV mBe, .ref mA20, nV su])), (mA17, cZ g 3 (upZ (upZ (upZ mbe 0 ((x : Nat) : Int)) 1 y) 2 z))] H := hP
  have hD : va_D A [(mo0, .inr (8, [nV mL, .ref mA1, nV mAt, .ref mA3, .ref mA4, .ref mA5, .ref mA6, .ref mA7, .ref mA8, .ref mA9, .ref mA10, .ref mA11, .ref mA12, nV kz, nV dn, .ref mA15, .ref mA16, .ref mA17, mV mAb, mV mBe, .ref mA20, nV su])), (mA17, cZ g 3 (upZ (upZ (upZ mbe 0 ((x : Nat) : Int)) 1 y) 2 z))] := hD
  exact ret (()) dX10_codes_75 hS (by have e : cst (mCl, mbe) x y z = (((su : Nat) : Int), upZ (upZ (upZ mbe 0 ((x : Nat) : Int)) 1 y) 2 z) := (by unfold cst; rw [← hsu, if_pos (by omega)]); rw [e]; exact hP) (trivial)
